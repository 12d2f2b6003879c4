set_option maxHeartbeats 4000000 in
theorem w_X9_serves_135 {p : Program} {l : Launch} {e : Env} {s : State} {m : MethodId} {args : Array Value} {below : List Frame} {meth : Method} {c : Code} {D : va_G} {B : Nat} {cy : Nat → ClassId} {A : Nat → Prop} {ad av : Nat → Nat} {Z : HS} (X : hCX p s m args meth c RX9 cX9_serves 5 none D cy A ad av) {z : Nat} (k9 : Int32 → Int32 → HS → Option HS) (hk9 : ∀ (x1 : Int32) (x2 : Int32) (S : HS) (H : Heap) (locs : List Loc) (ls : Array Slot), k9 x1 x2 S = some Z → hWd D B cy A true (hMz z) S s.heap H locs → lv_has ls 5 [(0, .ref (B + 0)), (1, .int x1), (2, .int x2)] → W p l e ({ frames := 1, cells := 0, slots := 0, locals := 23 } : Room) s m args below meth c H locs 0 0 (MQ below (hQo D B cy A true (hMz z) Z none) args s 0 0 A) (F0 m 9 ls [])) (x1 : Int32) (x2 : Int32) (y0 : Int32) (y1 : Int32) (S : HS) (H : Heap) (locs : List Loc) (ls : Array Slot) (hf : fn_X9_serves_135 k9 x1 x2 y0 y1 S = some Z) (hw : hWd D B cy A true (hMz z) S s.heap H locs) (hl : lv_has ls 5 [(0, .ref (B + 0)), (1, .int x1), (2, .int x2)]) : W p l e ({ frames := 1, cells := 0, slots := 0, locals := 23 } : Room) s m args below meth c H locs 0 0 (MQ below (hQo D B cy A true (hMz z) Z none) args s 0 0 A) (F0 m 135 ls [.int y0, .int y1, .ref (B + 24)]) := by
  unfold fn_X9_serves_135 at hf
  obtain ⟨g1, hf⟩ := gd_ok hf
  obtain ⟨S2, eS2, hf⟩ := bn_ok hf
  replace eS2 := Option.some.inj eS2
  refine r_iast X hw (hMk hw.2.2.2.2.2.1 24 rfl) (hMn hw.2.2.2.2.2.1 24 rfl) g1 hw.2.2.2.2.2 dX9_serves_135 (fun H locs hw => ?_)
  rw [eS2] at hw
  obtain ⟨v3, ev3, hf⟩ := bn_ok hf
  replace ev3 := Option.some.inj ev3
  refine lv_iinc (v := v3) (lv' := [(2, .int v3), (0, .ref (B + 0)), (1, .int x1)]) X.1 X.2.1 dX9_serves_136 hl (k := 2) rfl ev3 (by decide) rfl (fun ls hl => ?_)
  refine lv_goto (tgt := 9) X.1 X.2.1 dX9_serves_139 (by decide) ?_
  exact hk9 _ _ _ _ _ _ hf hw (lv_sub hl [1, 2, 0] rfl)
set_option maxHeartbeats 4000000 in
theorem w_X9_serves_94 {p : Program} {l : Launch} {e : Env} {s : State} {m : MethodId} {args : Array Value} {below : List Frame} {meth : Method} {c : Code} {D : va_G} {B : Nat} {cy : Nat → ClassId} {A : Nat → Prop} {ad av : Nat → Nat} {Z : HS} (X : hCX p s m args meth c RX9 cX9_serves 5 none D cy A ad av) {z : Nat} (k9 : Int32 → Int32 → HS → Option HS) (hk9 : ∀ (x1 : Int32) (x2 : Int32) (S : HS) (H : Heap) (locs : List Loc) (ls : Array Slot), k9 x1 x2 S = some Z → hWd D B cy A true (hMz z) S s.heap H locs → lv_has ls 5 [(0, .ref (B + 0)), (1, .int x1), (2, .int x2)] → W p l e ({ frames := 1, cells := 0, slots := 0, locals := 23 } : Room) s m args below meth c H locs 0 0 (MQ below (hQo D B cy A true (hMz z) Z none) args s 0 0 A) (F0 m 9 ls [])) (x1 : Int32) (x2 : Int32) (x3 : Int32) (y0 : Int32) (y1 : Int32) (S : HS) (H : Heap) (locs : List Loc) (ls : Array Slot) (hf : fn_X9_serves_94 k9 x1 x2 x3 y0 y1 S = some Z) (hw : hWd D B cy A true (hMz z) S s.heap H locs) (hl : lv_has ls 5 [(0, .ref (B + 0)), (1, .int x1), (2, .int x2), (3, .int x3)]) : W p l e ({ frames := 1, cells := 0, slots := 0, locals := 23 } : Room) s m args below meth c H locs 0 0 (MQ below (hQo D B cy A true (hMz z) Z none) args s 0 0 A) (F0 m 94 ls [.int y0, .int y1, .ref (B + 25)]) := by
  unfold fn_X9_serves_94 at hf
  obtain ⟨g1, hf⟩ := gd_ok hf
  obtain ⟨S2, eS2, hf⟩ := bn_ok hf
  replace eS2 := Option.some.inj eS2
  refine r_iast X hw (hMk hw.2.2.2.2.2.1 25 rfl) (hMn hw.2.2.2.2.2.1 25 rfl) g1 hw.2.2.2.2.2 dX9_serves_94 (fun H locs hw => ?_)
  rw [eS2] at hw
  refine lv_aload_n X.1 X.2.1 dX9_serves_95 rfl (lv_at hl 0 rfl) ?_
  refine r_getF X hw (κ := 10) rfl inlX9 39 (by decide) rfl (by decide) tw_128 (hMk hw.2.2.2.2.2.1 0 rfl) (hMr hw.2.2.2.2.2.1 0 39 rfl) dX9_serves_96 ?_
  refine lv_iload_n X.1 X.2.1 dX9_serves_99 rfl (lv_at hl 2 rfl) ?_
  refine lv_iload_n X.1 X.2.1 dX9_serves_100 rfl (lv_at hl 3 rfl) ?_
  refine lv_if_eq (tgt := 115) X.1 X.2.1 dX9_serves_101 (by decide) (fun hq => ?_) (fun hq => ?_)
  · replace hf := cd_tk hq hf
    refine lv_aload_n X.1 X.2.1 dX9_serves_115 rfl (lv_at hl 0 rfl) ?_
    refine r_getF X hw (κ := 10) rfl inlX9 40 (by decide) rfl (by decide) tw_129 (hMk hw.2.2.2.2.2.1 0 rfl) (hMr hw.2.2.2.2.2.1 0 40 rfl) dX9_serves_116 ?_
    refine lv_iload_n X.1 X.2.1 dX9_serves_119 rfl (lv_at hl 2 rfl) ?_
    obtain ⟨g3, hf⟩ := gd_ok hf
    refine r_iald X hw (hMk hw.2.2.2.2.2.1 25 rfl) (hMn hw.2.2.2.2.2.1 25 rfl) g3 dX9_serves_120 ?_
    refine lv_iload_n X.1 X.2.1 dX9_serves_121 rfl (lv_at hl 1 rfl) ?_
    refine lv_icmp_le (tgt := 129) X.1 X.2.1 dX9_serves_122 (by decide) (fun hq => ?_) (fun hq => ?_)
    · replace hf := cd_tk hq hf
      refine lv_aload_n X.1 X.2.1 dX9_serves_129 rfl (lv_at hl 0 rfl) ?_
      refine r_getF X hw (κ := 10) rfl inlX9 39 (by decide) rfl (by decide) tw_128 (hMk hw.2.2.2.2.2.1 0 rfl) (hMr hw.2.2.2.2.2.1 0 39 rfl) dX9_serves_130 ?_
      refine lv_iload_n X.1 X.2.1 dX9_serves_133 rfl (lv_at hl 2 rfl) ?_
      obtain ⟨g4, hf⟩ := gd_ok hf
      refine r_iald X hw (hMk hw.2.2.2.2.2.1 24 rfl) (hMn hw.2.2.2.2.2.1 24 rfl) g4 dX9_serves_134 ?_
      exact w_X9_serves_135 X k9 hk9 _ _ _ _ _ _ _ _ hf hw (lv_sub hl [0, 1, 2] rfl)
    · replace hf := cd_fk hq hf
      refine lv_iconst (v := 0) X.1 X.2.1 dX9_serves_125 (by decide) ?_
      refine lv_goto (tgt := 135) X.1 X.2.1 dX9_serves_126 (by decide) ?_
      exact w_X9_serves_135 X k9 hk9 _ _ _ _ _ _ _ _ hf hw (lv_sub hl [0, 1, 2] rfl)
  · replace hf := cd_fk hq hf
    refine lv_aload_n X.1 X.2.1 dX9_serves_104 rfl (lv_at hl 0 rfl) ?_
    refine r_getF X hw (κ := 10) rfl inlX9 39 (by decide) rfl (by decide) tw_128 (hMk hw.2.2.2.2.2.1 0 rfl) (hMr hw.2.2.2.2.2.1 0 39 rfl) dX9_serves_105 ?_
    refine lv_iload_n X.1 X.2.1 dX9_serves_108 rfl (lv_at hl 2 rfl) ?_
    obtain ⟨g5, hf⟩ := gd_ok hf
    refine r_iald X hw (hMk hw.2.2.2.2.2.1 24 rfl) (hMn hw.2.2.2.2.2.1 24 rfl) g5 dX9_serves_109 ?_
    refine lv_iconst (v := 1) X.1 X.2.1 dX9_serves_110 (by decide) ?_
    refine lv_iadd X.1 X.2.1 dX9_serves_111 ?_
    refine lv_goto (tgt := 135) X.1 X.2.1 dX9_serves_112 (by decide) ?_
    exact w_X9_serves_135 X k9 hk9 _ _ _ _ _ _ _ _ hf hw (lv_sub hl [0, 1, 2] rfl)
set_option maxHeartbeats 4000000 in
theorem w_X9_serves_66 {p : Program} {l : Launch} {e : Env} {s : State} {m : MethodId} {args : Array Value} {below : List Frame} {meth : Method} {c : Code} {D : va_G} {B : Nat} {cy : Nat → ClassId} {A : Nat → Prop} {ad av : Nat → Nat} {Z : HS} (X : hCX p s m args meth c RX9 cX9_serves 5 none D cy A ad av) {z : Nat} (k9 : Int32 → Int32 → HS → Option HS) (hk9 : ∀ (x1 : Int32) (x2 : Int32) (S : HS) (H : Heap) (locs : List Loc) (ls : Array Slot), k9 x1 x2 S = some Z → hWd D B cy A true (hMz z) S s.heap H locs → lv_has ls 5 [(0, .ref (B + 0)), (1, .int x1), (2, .int x2)] → W p l e ({ frames := 1, cells := 0, slots := 0, locals := 23 } : Room) s m args below meth c H locs 0 0 (MQ below (hQo D B cy A true (hMz z) Z none) args s 0 0 A) (F0 m 9 ls [])) (k20 : Int32 → Int32 → Int32 → Int32 → HS → Option HS) (hk20 : ∀ (x1 : Int32) (x2 : Int32) (x3 : Int32) (x4 : Int32) (S : HS) (H : Heap) (locs : List Loc) (ls : Array Slot), k20 x1 x2 x3 x4 S = some Z → hWd D B cy A true (hMz z) S s.heap H locs → lv_has ls 5 [(0, .ref (B + 0)), (1, .int x1), (2, .int x2), (3, .int x3), (4, .int x4)] → W p l e ({ frames := 1, cells := 0, slots := 0, locals := 23 } : Room) s m args below meth c H locs 0 0 (MQ below (hQo D B cy A true (hMz z) Z none) args s 0 0 A) (F0 m 20 ls [])) (x1 : Int32) (x2 : Int32) (x4 : Int32) (y0 : Int32) (S : HS) (H : Heap) (locs : List Loc) (ls : Array Slot) (hf : fn_X9_serves_66 k9 k20 x1 x2 x4 y0 S = some Z) (hw : hWd D B cy A true (hMz z) S s.heap H locs) (hl : lv_has ls 5 [(0, .ref (B + 0)), (1, .int x1), (2, .int x2), (4, .int x4)]) : W p l e ({ frames := 1, cells := 0, slots := 0, locals := 23 } : Room) s m args below meth c H locs 0 0 (MQ below (hQo D B cy A true (hMz z) Z none) args s 0 0 A) (F0 m 66 ls [.int y0]) := by
  unfold fn_X9_serves_66 at hf
  refine lv_istore_n (lv' := [(3, .int y0), (0, .ref (B + 0)), (1, .int x1), (2, .int x2), (4, .int x4)]) X.1 X.2.1 dX9_serves_66 rfl hl (by decide) rfl (fun ls hl => ?_)
  obtain ⟨v1, ev1, hf⟩ := bn_ok hf
  replace ev1 := Option.some.inj ev1
  refine lv_iinc (v := v1) (lv' := [(4, .int v1), (3, .int y0), (0, .ref (B + 0)), (1, .int x1), (2, .int x2)]) X.1 X.2.1 dX9_serves_67 hl (k := 4) rfl ev1 (by decide) rfl (fun ls hl => ?_)
  refine lv_goto (tgt := 20) X.1 X.2.1 dX9_serves_70 (by decide) ?_
  exact hk20 _ _ _ _ _ _ _ _ hf hw (lv_sub hl [2, 3, 4, 1, 0] rfl)
set_option maxHeartbeats 4000000 in
theorem w_X9_serves_65 {p : Program} {l : Launch} {e : Env} {s : State} {m : MethodId} {args : Array Value} {below : List Frame} {meth : Method} {c : Code} {D : va_G} {B : Nat} {cy : Nat → ClassId} {A : Nat → Prop} {ad av : Nat → Nat} {Z : HS} (X : hCX p s m args meth c RX9 cX9_serves 5 none D cy A ad av) {z : Nat} (k9 : Int32 → Int32 → HS → Option HS) (hk9 : ∀ (x1 : Int32) (x2 : Int32) (S : HS) (H : Heap) (locs : List Loc) (ls : Array Slot), k9 x1 x2 S = some Z → hWd D B cy A true (hMz z) S s.heap H locs → lv_has ls 5 [(0, .ref (B + 0)), (1, .int x1), (2, .int x2)] → W p l e ({ frames := 1, cells := 0, slots := 0, locals := 23 } : Room) s m args below meth c H locs 0 0 (MQ below (hQo D B cy A true (hMz z) Z none) args s 0 0 A) (F0 m 9 ls [])) (k20 : Int32 → Int32 → Int32 → Int32 → HS → Option HS) (hk20 : ∀ (x1 : Int32) (x2 : Int32) (x3 : Int32) (x4 : Int32) (S : HS) (H : Heap) (locs : List Loc) (ls : Array Slot), k20 x1 x2 x3 x4 S = some Z → hWd D B cy A true (hMz z) S s.heap H locs → lv_has ls 5 [(0, .ref (B + 0)), (1, .int x1), (2, .int x2), (3, .int x3), (4, .int x4)] → W p l e ({ frames := 1, cells := 0, slots := 0, locals := 23 } : Room) s m args below meth c H locs 0 0 (MQ below (hQo D B cy A true (hMz z) Z none) args s 0 0 A) (F0 m 20 ls [])) (x1 : Int32) (x2 : Int32) (x4 : Int32) (S : HS) (H : Heap) (locs : List Loc) (ls : Array Slot) (hf : fn_X9_serves_65 k9 k20 x1 x2 x4 S = some Z) (hw : hWd D B cy A true (hMz z) S s.heap H locs) (hl : lv_has ls 5 [(0, .ref (B + 0)), (1, .int x1), (2, .int x2), (4, .int x4)]) : W p l e ({ frames := 1, cells := 0, slots := 0, locals := 23 } : Room) s m args below meth c H locs 0 0 (MQ below (hQo D B cy A true (hMz z) Z none) args s 0 0 A) (F0 m 65 ls []) := by
  unfold fn_X9_serves_65 at hf
  refine lv_iconst (v := 0) X.1 X.2.1 dX9_serves_65 (by decide) ?_
  exact w_X9_serves_66 X k9 hk9 k20 hk20 _ _ _ _ _ _ _ _ hf hw (lv_sub hl [0, 1, 2, 3] rfl)
set_option maxHeartbeats 4000000 in
theorem w_X9_serves_61 {p : Program} {l : Launch} {e : Env} {s : State} {m : MethodId} {args : Array Value} {below : List Frame} {meth : Method} {c : Code} {D : va_G} {B : Nat} {cy : Nat → ClassId} {A : Nat → Prop} {ad av : Nat → Nat} {Z : HS} (X : hCX p s m args meth c RX9 cX9_serves 5 none D cy A ad av) {z : Nat} (k9 : Int32 → Int32 → HS → Option HS) (hk9 : ∀ (x1 : Int32) (x2 : Int32) (S : HS) (H : Heap) (locs : List Loc) (ls : Array Slot), k9 x1 x2 S = some Z → hWd D B cy A true (hMz z) S s.heap H locs → lv_has ls 5 [(0, .ref (B + 0)), (1, .int x1), (2, .int x2)] → W p l e ({ frames := 1, cells := 0, slots := 0, locals := 23 } : Room) s m args below meth c H locs 0 0 (MQ below (hQo D B cy A true (hMz z) Z none) args s 0 0 A) (F0 m 9 ls [])) (k20 : Int32 → Int32 → Int32 → Int32 → HS → Option HS) (hk20 : ∀ (x1 : Int32) (x2 : Int32) (x3 : Int32) (x4 : Int32) (S : HS) (H : Heap) (locs : List Loc) (ls : Array Slot), k20 x1 x2 x3 x4 S = some Z → hWd D B cy A true (hMz z) S s.heap H locs → lv_has ls 5 [(0, .ref (B + 0)), (1, .int x1), (2, .int x2), (3, .int x3), (4, .int x4)] → W p l e ({ frames := 1, cells := 0, slots := 0, locals := 23 } : Room) s m args below meth c H locs 0 0 (MQ below (hQo D B cy A true (hMz z) Z none) args s 0 0 A) (F0 m 20 ls [])) (x1 : Int32) (x2 : Int32) (x4 : Int32) (S : HS) (H : Heap) (locs : List Loc) (ls : Array Slot) (hf : fn_X9_serves_61 k9 k20 x1 x2 x4 S = some Z) (hw : hWd D B cy A true (hMz z) S s.heap H locs) (hl : lv_has ls 5 [(0, .ref (B + 0)), (1, .int x1), (2, .int x2), (4, .int x4)]) : W p l e ({ frames := 1, cells := 0, slots := 0, locals := 23 } : Room) s m args below meth c H locs 0 0 (MQ below (hQo D B cy A true (hMz z) Z none) args s 0 0 A) (F0 m 61 ls []) := by
  unfold fn_X9_serves_61 at hf
  refine lv_iconst (v := 1) X.1 X.2.1 dX9_serves_61 (by decide) ?_
  refine lv_goto (tgt := 66) X.1 X.2.1 dX9_serves_62 (by decide) ?_
  exact w_X9_serves_66 X k9 hk9 k20 hk20 _ _ _ _ _ _ _ _ hf hw (lv_sub hl [0, 1, 2, 3] rfl)
set_option maxHeartbeats 4000000 in
theorem w_X9_serves_20 {p : Program} {l : Launch} {e : Env} {s : State} {m : MethodId} {args : Array Value} {below : List Frame} {meth : Method} {c : Code} {D : va_G} {B : Nat} {cy : Nat → ClassId} {A : Nat → Prop} {ad av : Nat → Nat} {Z : HS} (X : hCX p s m args meth c RX9 cX9_serves 5 none D cy A ad av) {z : Nat} (k9 : Int32 → Int32 → HS → Option HS) (hk9 : ∀ (x1 : Int32) (x2 : Int32) (S : HS) (H : Heap) (locs : List Loc) (ls : Array Slot), k9 x1 x2 S = some Z → hWd D B cy A true (hMz z) S s.heap H locs → lv_has ls 5 [(0, .ref (B + 0)), (1, .int x1), (2, .int x2)] → W p l e ({ frames := 1, cells := 0, slots := 0, locals := 23 } : Room) s m args below meth c H locs 0 0 (MQ below (hQo D B cy A true (hMz z) Z none) args s 0 0 A) (F0 m 9 ls [])) : ∀ (n : Nat) (x1 : Int32) (x2 : Int32) (x3 : Int32) (x4 : Int32) (S : HS) (H : Heap) (locs : List Loc) (ls : Array Slot), fn_X9_serves_20 k9 n x1 x2 x3 x4 S = some Z → hWd D B cy A true (hMz z) S s.heap H locs → lv_has ls 5 [(0, .ref (B + 0)), (1, .int x1), (2, .int x2), (3, .int x3), (4, .int x4)] → W p l e ({ frames := 1, cells := 0, slots := 0, locals := 23 } : Room) s m args below meth c H locs 0 0 (MQ below (hQo D B cy A true (hMz z) Z none) args s 0 0 A) (F0 m 20 ls []) := by
  intro n
  induction n with
  | zero =>
    intro x1 x2 x3 x4 S H locs ls hf
    cases hf
  | succ n ih =>
    intro x1 x2 x3 x4 S H locs ls hf hw hl
    rw [fn_X9_serves_20] at hf
    refine lv_iload X.1 X.2.1 dX9_serves_20 (lv_at hl 4 rfl) ?_
    refine lv_aload_n X.1 X.2.1 dX9_serves_22 rfl (lv_at hl 0 rfl) ?_
    refine r_getI X hw (κ := 10) rfl inlX9 28 (by decide) rfl (by decide) tw_538 (hMk hw.2.2.2.2.2.1 0 rfl) dX9_serves_23 ?_
    refine lv_icmp_ge (tgt := 73) X.1 X.2.1 dX9_serves_26 (by decide) (fun hq => ?_) (fun hq => ?_)
    · replace hf := cd_tk hq hf
      refine lv_aload_n X.1 X.2.1 dX9_serves_73 rfl (lv_at hl 0 rfl) ?_
      refine r_getF X hw (κ := 10) rfl inlX9 40 (by decide) rfl (by decide) tw_129 (hMk hw.2.2.2.2.2.1 0 rfl) (hMr hw.2.2.2.2.2.1 0 40 rfl) dX9_serves_74 ?_
      refine lv_iload_n X.1 X.2.1 dX9_serves_77 rfl (lv_at hl 2 rfl) ?_
      refine lv_iload_n X.1 X.2.1 dX9_serves_78 rfl (lv_at hl 3 rfl) ?_
      refine lv_if_eq (tgt := 86) X.1 X.2.1 dX9_serves_79 (by decide) (fun hq => ?_) (fun hq => ?_)
      · replace hf := cd_tk hq hf
        refine lv_aload_n X.1 X.2.1 dX9_serves_86 rfl (lv_at hl 0 rfl) ?_
        refine r_getF X hw (κ := 10) rfl inlX9 40 (by decide) rfl (by decide) tw_129 (hMk hw.2.2.2.2.2.1 0 rfl) (hMr hw.2.2.2.2.2.1 0 40 rfl) dX9_serves_87 ?_
        refine lv_iload_n X.1 X.2.1 dX9_serves_90 rfl (lv_at hl 2 rfl) ?_
        obtain ⟨g1, hf⟩ := gd_ok hf
        refine r_iald X hw (hMk hw.2.2.2.2.2.1 25 rfl) (hMn hw.2.2.2.2.2.1 25 rfl) g1 dX9_serves_91 ?_
        refine lv_iconst (v := 1) X.1 X.2.1 dX9_serves_92 (by decide) ?_
        refine lv_iadd X.1 X.2.1 dX9_serves_93 ?_
        exact w_X9_serves_94 X k9 hk9 _ _ _ _ _ _ _ _ _ hf hw (lv_sub hl [0, 1, 2, 3] rfl)
      · replace hf := cd_fk hq hf
        refine lv_iconst (v := 0) X.1 X.2.1 dX9_serves_82 (by decide) ?_
        refine lv_goto (tgt := 94) X.1 X.2.1 dX9_serves_83 (by decide) ?_
        exact w_X9_serves_94 X k9 hk9 _ _ _ _ _ _ _ _ _ hf hw (lv_sub hl [0, 1, 2, 3] rfl)
    · replace hf := cd_fk hq hf
      refine lv_iload_n X.1 X.2.1 dX9_serves_29 rfl (lv_at hl 3 rfl) ?_
      refine lv_if_ne (tgt := 61) X.1 X.2.1 dX9_serves_30 (by decide) (fun hq => ?_) (fun hq => ?_)
      · replace hf := cd_fk hq hf
        exact w_X9_serves_61 X k9 hk9 (fn_X9_serves_20 k9 n) ih _ _ _ _ _ _ _ hf hw (lv_sub hl [0, 1, 2, 4] rfl)
      · replace hf := cd_tk hq hf
        refine lv_aload_n X.1 X.2.1 dX9_serves_33 rfl (lv_at hl 0 rfl) ?_
        refine r_getF X hw (κ := 10) rfl inlX9 27 (by decide) rfl (by decide) tw_118 (hMk hw.2.2.2.2.2.1 0 rfl) (hMr hw.2.2.2.2.2.1 0 27 rfl) dX9_serves_34 ?_
        refine lv_iload X.1 X.2.1 dX9_serves_37 (lv_at hl 4 rfl) ?_
        obtain ⟨g2, hf⟩ := gd_ok hf
        refine r_iald X hw (hMk hw.2.2.2.2.2.1 14 rfl) (hMn hw.2.2.2.2.2.1 14 rfl) g2 dX9_serves_39 ?_
        refine lv_iload_n X.1 X.2.1 dX9_serves_40 rfl (lv_at hl 2 rfl) ?_
        refine lv_icmp_ne (tgt := 65) X.1 X.2.1 dX9_serves_41 (by decide) (fun hq => ?_) (fun hq => ?_)
        · replace hf := cd_fk hq hf
          exact w_X9_serves_65 X k9 hk9 (fn_X9_serves_20 k9 n) ih _ _ _ _ _ _ _ hf hw (lv_sub hl [0, 1, 2, 4] rfl)
        · replace hf := cd_tk hq hf
          refine lv_aload_n X.1 X.2.1 dX9_serves_44 rfl (lv_at hl 0 rfl) ?_
          refine r_getF X hw (κ := 10) rfl inlX9 38 (by decide) rfl (by decide) tw_127 (hMk hw.2.2.2.2.2.1 0 rfl) (hMr hw.2.2.2.2.2.1 0 38 rfl) dX9_serves_45 ?_
          refine lv_bipush (v := 9) X.1 X.2.1 dX9_serves_48 (by decide) ?_
          refine lv_iload X.1 X.2.1 dX9_serves_50 (lv_at hl 4 rfl) ?_
          refine lv_imul X.1 X.2.1 dX9_serves_52 ?_
          refine lv_bipush (v := 6) X.1 X.2.1 dX9_serves_53 (by decide) ?_
          refine lv_iadd X.1 X.2.1 dX9_serves_55 ?_
          obtain ⟨g3, hf⟩ := gd_ok hf
          refine r_iald X hw (hMk hw.2.2.2.2.2.1 23 rfl) (hMn hw.2.2.2.2.2.1 23 rfl) g3 dX9_serves_56 ?_
          refine lv_iconst (v := 1) X.1 X.2.1 dX9_serves_57 (by decide) ?_
          refine lv_icmp_ne (tgt := 65) X.1 X.2.1 dX9_serves_58 (by decide) (fun hq => ?_) (fun hq => ?_)
          · replace hf := cd_fk hq hf
            exact w_X9_serves_65 X k9 hk9 (fn_X9_serves_20 k9 n) ih _ _ _ _ _ _ _ hf hw (lv_sub hl [0, 1, 2, 4] rfl)
          · replace hf := cd_tk hq hf
            exact w_X9_serves_61 X k9 hk9 (fn_X9_serves_20 k9 n) ih _ _ _ _ _ _ _ hf hw (lv_sub hl [0, 1, 2, 4] rfl)
set_option maxHeartbeats 4000000 in
theorem w_X9_serves_9 {p : Program} {l : Launch} {e : Env} {s : State} {m : MethodId} {args : Array Value} {below : List Frame} {meth : Method} {c : Code} {D : va_G} {B : Nat} {cy : Nat → ClassId} {A : Nat → Prop} {ad av : Nat → Nat} {Z : HS} (X : hCX p s m args meth c RX9 cX9_serves 5 none D cy A ad av) {z : Nat}  : ∀ (n : Nat) (x1 : Int32) (x2 : Int32) (S : HS) (H : Heap) (locs : List Loc) (ls : Array Slot), fn_X9_serves_9 n x1 x2 S = some Z → hWd D B cy A true (hMz z) S s.heap H locs → lv_has ls 5 [(0, .ref (B + 0)), (1, .int x1), (2, .int x2)] → W p l e ({ frames := 1, cells := 0, slots := 0, locals := 23 } : Room) s m args below meth c H locs 0 0 (MQ below (hQo D B cy A true (hMz z) Z none) args s 0 0 A) (F0 m 9 ls []) := by
  intro n
  induction n with
  | zero =>
    intro x1 x2 S H locs ls hf
    cases hf
  | succ n ih =>
    intro x1 x2 S H locs ls hf hw hl
    rw [fn_X9_serves_9] at hf
    refine lv_iload_n X.1 X.2.1 dX9_serves_9 rfl (lv_at hl 2 rfl) ?_
    refine lv_bipush (v := 8) X.1 X.2.1 dX9_serves_10 (by decide) ?_
    refine lv_icmp_ge (tgt := 142) X.1 X.2.1 dX9_serves_12 (by decide) (fun hq => ?_) (fun hq => ?_)
    · replace hf := cd_tk hq hf
      cases hf
      exact r_vret X hw dX9_serves_142
    · replace hf := cd_fk hq hf
      refine lv_iconst (v := 0) X.1 X.2.1 dX9_serves_15 (by decide) ?_
      refine lv_istore_n (lv' := [(3, .int 0), (0, .ref (B + 0)), (1, .int x1), (2, .int x2)]) X.1 X.2.1 dX9_serves_16 rfl hl (by decide) rfl (fun ls hl => ?_)
      refine lv_iconst (v := 0) X.1 X.2.1 dX9_serves_17 (by decide) ?_
      refine lv_istore (lv' := [(4, .int 0), (3, .int 0), (0, .ref (B + 0)), (1, .int x1), (2, .int x2)]) X.1 X.2.1 dX9_serves_18 hl (by decide) rfl (fun ls hl => ?_)
      exact w_X9_serves_20 X (fn_X9_serves_9 n) ih _ _ _ _ _ _ _ _ _ hf hw (lv_sub hl [2, 3, 4, 1, 0] rfl)
theorem hd_X9_serves : yX9_serves.cls = RX9 ∧ yX9_serves.cls ≠ "java/lang/invoke/MethodHandle" ∧ yX9_serves.cls ≠ "java/lang/invoke/VarHandle" ∧ (parseMethodDescriptor yX9_serves.desc).map (fun d => d.parameters.length) = some 0 := by decide +kernel
set_option maxHeartbeats 4000000 in
theorem c_X9_serves (l : Launch) (D : va_G) (B : Nat) (cy : Nat → ClassId) (A : Nat → Prop) (ad av : Nat → Nat) {z : Nat}  {S Z : HS} (hfr : hFr S) (hG : (hMz z) S) (hf : fn_X9_serves S = some Z) : hMet l yX9_serves cX9_serves 5 none ({ frames := 1, cells := 0, slots := 0, locals := 23 } : Room) D B cy A ad av true (hMz z) [.ref (B + 0)] S Z none 0 0 := by
  refine h_entry (by decide) hfr hG ?_
  intro p e s m below meth c args X hnm hw
  have hl := lv_entry ([.ref (B + 0)]) (n := 5) (Nat.le_of_ble_eq_true rfl)
  rw [lg_entry_eq]
  generalize (lg_sl ([.ref (B + 0)]) ++ List.replicate (5 - (lg_sl ([.ref (B + 0)])).length) Slot.unset).toArray = ls at hl ⊢
  have hl : lv_has ls 5 [(0, .ref (B + 0))] := hl
  unfold fn_X9_serves at hf
  refine lv_aload_n X.1 X.2.1 dX9_serves_0 rfl (lv_at hl 0 rfl) ?_
  refine lv_iconst (v := 4) X.1 X.2.1 dX9_serves_1 (by decide) ?_
  refine lv_iconst (v := 0) X.1 X.2.1 dX9_serves_2 (by decide) ?_
  obtain ⟨r2, S1, hS1, hf⟩ := bn2_ok hf
  refine r_callV (As := [.int 4, .int 0]) (rest := []) (st1 := [.int r2]) (κ := 10) X hw (c_X9_numberOf l D B cy A ad av 4 0 hw.2.2.2.2.1 hw.2.2.2.2.2 hS1) ⟨rfl, rfl, Nat.le_of_ble_eq_true rfl, Nat.le_of_ble_eq_true rfl⟩ rfl (by decide) (hMk hw.2.2.2.2.2.1 0 rfl) tw_773 tw_774 tw_775 tw_5 tw_776 hd_X9_numberOf rfl hl.1 rfl (Nat.le_of_ble_eq_true rfl) dX9_serves_3 ⟨Nat.le_of_ble_eq_true rfl, Nat.le_of_ble_eq_true rfl⟩ rfl (fun H locs hw => ?_)
  refine lv_istore_n (lv' := [(1, .int r2), (0, .ref (B + 0))]) X.1 X.2.1 dX9_serves_6 rfl hl (by decide) rfl (fun ls hl => ?_)
  refine lv_iconst (v := 0) X.1 X.2.1 dX9_serves_7 (by decide) ?_
  refine lv_istore_n (lv' := [(2, .int 0), (1, .int r2), (0, .ref (B + 0))]) X.1 X.2.1 dX9_serves_8 rfl hl (by decide) rfl (fun ls hl => ?_)
  exact w_X9_serves_9 X  _ _ _ _ _ _ _ hf hw (lv_sub hl [2, 1, 0] rfl)
set_option maxHeartbeats 4000000 in
theorem w_X9_notesOf_122 {p : Program} {l : Launch} {e : Env} {s : State} {m : MethodId} {args : Array Value} {below : List Frame} {meth : Method} {c : Code} {D : va_G} {B : Nat} {cy : Nat → ClassId} {A : Nat → Prop} {ad av : Nat → Nat} {Z : HS} (X : hCX p s m args meth c RX9 cX9_notesOf 4 none D cy A ad av) {z : Nat} (k2 : Int32 → Int32 → Int32 → HS → Option HS) (hk2 : ∀ (x1 : Int32) (x2 : Int32) (x3 : Int32) (S : HS) (H : Heap) (locs : List Loc) (ls : Array Slot), k2 x1 x2 x3 S = some Z → hWd D B cy A true (hMz z) S s.heap H locs → lv_has ls 4 [(0, .ref (B + 0)), (1, .int x1), (2, .int x2), (3, .int x3)] → W p l e ({ frames := 0, cells := 0, slots := 0, locals := 0 } : Room) s m args below meth c H locs 0 0 (MQ below (hQo D B cy A true (hMz z) Z none) args s 0 0 A) (F0 m 2 ls [])) (x1 : Int32) (x2 : Int32) (x3 : Int32) (S : HS) (H : Heap) (locs : List Loc) (ls : Array Slot) (hf : fn_X9_notesOf_122 k2 x1 x2 x3 S = some Z) (hw : hWd D B cy A true (hMz z) S s.heap H locs) (hl : lv_has ls 4 [(0, .ref (B + 0)), (1, .int x1), (2, .int x2), (3, .int x3)]) : W p l e ({ frames := 0, cells := 0, slots := 0, locals := 0 } : Room) s m args below meth c H locs 0 0 (MQ below (hQo D B cy A true (hMz z) Z none) args s 0 0 A) (F0 m 122 ls []) := by
  unfold fn_X9_notesOf_122 at hf
  obtain ⟨v1, ev1, hf⟩ := bn_ok hf
  replace ev1 := Option.some.inj ev1
  refine lv_iinc (v := v1) (lv' := [(3, .int v1), (0, .ref (B + 0)), (1, .int x1), (2, .int x2)]) X.1 X.2.1 dX9_notesOf_122 hl (k := 3) rfl ev1 (by decide) rfl (fun ls hl => ?_)
  refine lv_goto (tgt := 2) X.1 X.2.1 dX9_notesOf_125 (by decide) ?_
  exact hk2 _ _ _ _ _ _ _ hf hw (lv_sub hl [1, 2, 3, 0] rfl)
set_option maxHeartbeats 4000000 in
theorem w_X9_notesOf_99 {p : Program} {l : Launch} {e : Env} {s : State} {m : MethodId} {args : Array Value} {below : List Frame} {meth : Method} {c : Code} {D : va_G} {B : Nat} {cy : Nat → ClassId} {A : Nat → Prop} {ad av : Nat → Nat} {Z : HS} (X : hCX p s m args meth c RX9 cX9_notesOf 4 none D cy A ad av) {z : Nat} (k2 : Int32 → Int32 → Int32 → HS → Option HS) (hk2 : ∀ (x1 : Int32) (x2 : Int32) (x3 : Int32) (S : HS) (H : Heap) (locs : List Loc) (ls : Array Slot), k2 x1 x2 x3 S = some Z → hWd D B cy A true (hMz z) S s.heap H locs → lv_has ls 4 [(0, .ref (B + 0)), (1, .int x1), (2, .int x2), (3, .int x3)] → W p l e ({ frames := 0, cells := 0, slots := 0, locals := 0 } : Room) s m args below meth c H locs 0 0 (MQ below (hQo D B cy A true (hMz z) Z none) args s 0 0 A) (F0 m 2 ls [])) (x1 : Int32) (x2 : Int32) (x3 : Int32) (y0 : Int32) (y1 : Int32) (S : HS) (H : Heap) (locs : List Loc) (ls : Array Slot) (hf : fn_X9_notesOf_99 k2 x1 x2 x3 y0 y1 S = some Z) (hw : hWd D B cy A true (hMz z) S s.heap H locs) (hl : lv_has ls 4 [(0, .ref (B + 0)), (1, .int x1), (2, .int x2), (3, .int x3)]) : W p l e ({ frames := 0, cells := 0, slots := 0, locals := 0 } : Room) s m args below meth c H locs 0 0 (MQ below (hQo D B cy A true (hMz z) Z none) args s 0 0 A) (F0 m 99 ls [.int y0, .int y1, .ref (B + 33)]) := by
  unfold fn_X9_notesOf_99 at hf
  obtain ⟨g1, hf⟩ := gd_ok hf
  obtain ⟨g2, hf⟩ := gd_ok hf
  obtain ⟨S3, eS3, hf⟩ := bn_ok hf
  replace eS3 := Option.some.inj eS3
  refine r_zast X hw (hMk hw.2.2.2.2.2.1 33 rfl) (hMn hw.2.2.2.2.2.1 33 rfl) g1 g2 hw.2.2.2.2.2 dX9_notesOf_99 (fun H locs hw => ?_)
  rw [eS3] at hw
  refine lv_aload_n X.1 X.2.1 dX9_notesOf_100 rfl (lv_at hl 0 rfl) ?_
  refine r_getF X hw (κ := 10) rfl inlX9 47 (by decide) rfl (by decide) tw_136 (hMk hw.2.2.2.2.2.1 0 rfl) (hMr hw.2.2.2.2.2.1 0 47 rfl) dX9_notesOf_101 ?_
  refine lv_aload_n X.1 X.2.1 dX9_notesOf_104 rfl (lv_at hl 0 rfl) ?_
  refine r_getF X hw (κ := 10) rfl inlX9 29 (by decide) rfl (by decide) tw_119 (hMk hw.2.2.2.2.2.1 0 rfl) (hMr hw.2.2.2.2.2.1 0 29 rfl) dX9_notesOf_105 ?_
  refine lv_iload_n X.1 X.2.1 dX9_notesOf_108 rfl (lv_at hl 3 rfl) ?_
  obtain ⟨g4, hf⟩ := gd_ok hf
  refine r_iald X hw (hMk hw.2.2.2.2.2.1 15 rfl) (hMn hw.2.2.2.2.2.1 15 rfl) g4 dX9_notesOf_109 ?_
  refine lv_aload_n X.1 X.2.1 dX9_notesOf_110 rfl (lv_at hl 0 rfl) ?_
  refine r_getF X hw (κ := 10) rfl inlX9 46 (by decide) rfl (by decide) tw_135 (hMk hw.2.2.2.2.2.1 0 rfl) (hMr hw.2.2.2.2.2.1 0 46 rfl) dX9_notesOf_111 ?_
  refine lv_aload_n X.1 X.2.1 dX9_notesOf_114 rfl (lv_at hl 0 rfl) ?_
  refine r_getF X hw (κ := 10) rfl inlX9 29 (by decide) rfl (by decide) tw_119 (hMk hw.2.2.2.2.2.1 0 rfl) (hMr hw.2.2.2.2.2.1 0 29 rfl) dX9_notesOf_115 ?_
  refine lv_iload_n X.1 X.2.1 dX9_notesOf_118 rfl (lv_at hl 3 rfl) ?_
  obtain ⟨g5, hf⟩ := gd_ok hf
  refine r_iald X hw (hMk hw.2.2.2.2.2.1 15 rfl) (hMn hw.2.2.2.2.2.1 15 rfl) g5 dX9_notesOf_119 ?_
  obtain ⟨g6, hf⟩ := gd_ok hf
  refine r_iald X hw (hMk hw.2.2.2.2.2.1 31 rfl) (hMn hw.2.2.2.2.2.1 31 rfl) g6 dX9_notesOf_120 ?_
  obtain ⟨g7, hf⟩ := gd_ok hf
  obtain ⟨S8, eS8, hf⟩ := bn_ok hf
  replace eS8 := Option.some.inj eS8
  refine r_iast X hw (hMk hw.2.2.2.2.2.1 32 rfl) (hMn hw.2.2.2.2.2.1 32 rfl) g7 hw.2.2.2.2.2 dX9_notesOf_121 (fun H locs hw => ?_)
  rw [eS8] at hw
  exact w_X9_notesOf_122 X k2 hk2 _ _ _ _ _ _ _ hf hw (lv_sub hl [0, 1, 2, 3] rfl)
set_option maxHeartbeats 4000000 in
theorem w_X9_notesOf_2 {p : Program} {l : Launch} {e : Env} {s : State} {m : MethodId} {args : Array Value} {below : List Frame} {meth : Method} {c : Code} {D : va_G} {B : Nat} {cy : Nat → ClassId} {A : Nat → Prop} {ad av : Nat → Nat} {Z : HS} (X : hCX p s m args meth c RX9 cX9_notesOf 4 none D cy A ad av) {z : Nat}  : ∀ (n : Nat) (x1 : Int32) (x2 : Int32) (x3 : Int32) (S : HS) (H : Heap) (locs : List Loc) (ls : Array Slot), fn_X9_notesOf_2 n x1 x2 x3 S = some Z → hWd D B cy A true (hMz z) S s.heap H locs → lv_has ls 4 [(0, .ref (B + 0)), (1, .int x1), (2, .int x2), (3, .int x3)] → W p l e ({ frames := 0, cells := 0, slots := 0, locals := 0 } : Room) s m args below meth c H locs 0 0 (MQ below (hQo D B cy A true (hMz z) Z none) args s 0 0 A) (F0 m 2 ls []) := by
  intro n
  induction n with
  | zero =>
    intro x1 x2 x3 S H locs ls hf
    cases hf
  | succ n ih =>
    intro x1 x2 x3 S H locs ls hf hw hl
    rw [fn_X9_notesOf_2] at hf
    refine lv_iload_n X.1 X.2.1 dX9_notesOf_2 rfl (lv_at hl 3 rfl) ?_
    refine lv_aload_n X.1 X.2.1 dX9_notesOf_3 rfl (lv_at hl 0 rfl) ?_
    refine r_getI X hw (κ := 10) rfl inlX9 34 (by decide) rfl (by decide) tw_575 (hMk hw.2.2.2.2.2.1 0 rfl) dX9_notesOf_4 ?_
    refine lv_icmp_ge (tgt := 128) X.1 X.2.1 dX9_notesOf_7 (by decide) (fun hq => ?_) (fun hq => ?_)
    · replace hf := cd_tk hq hf
      cases hf
      exact r_vret X hw dX9_notesOf_128
    · replace hf := cd_fk hq hf
      refine lv_aload_n X.1 X.2.1 dX9_notesOf_10 rfl (lv_at hl 0 rfl) ?_
      refine r_getF X hw (κ := 10) rfl inlX9 31 (by decide) rfl (by decide) tw_121 (hMk hw.2.2.2.2.2.1 0 rfl) (hMr hw.2.2.2.2.2.1 0 31 rfl) dX9_notesOf_11 ?_
      refine lv_iload_n X.1 X.2.1 dX9_notesOf_14 rfl (lv_at hl 3 rfl) ?_
      obtain ⟨g1, hf⟩ := gd_ok hf
      refine r_iald X hw (hMk hw.2.2.2.2.2.1 17 rfl) (hMn hw.2.2.2.2.2.1 17 rfl) g1 dX9_notesOf_15 ?_
      refine lv_iload_n X.1 X.2.1 dX9_notesOf_16 rfl (lv_at hl 1 rfl) ?_
      refine lv_icmp_ne (tgt := 122) X.1 X.2.1 dX9_notesOf_17 (by decide) (fun hq => ?_) (fun hq => ?_)
      · replace hf := cd_fk hq hf
        exact w_X9_notesOf_122 X (fn_X9_notesOf_2 n) ih _ _ _ _ _ _ _ hf hw (lv_sub hl [0, 1, 2, 3] rfl)
      · replace hf := cd_tk hq hf
        refine lv_aload_n X.1 X.2.1 dX9_notesOf_20 rfl (lv_at hl 0 rfl) ?_
        refine r_getF X hw (κ := 10) rfl inlX9 32 (by decide) rfl (by decide) tw_122 (hMk hw.2.2.2.2.2.1 0 rfl) (hMr hw.2.2.2.2.2.1 0 32 rfl) dX9_notesOf_21 ?_
        refine lv_iload_n X.1 X.2.1 dX9_notesOf_24 rfl (lv_at hl 3 rfl) ?_
        obtain ⟨g2, hf⟩ := gd_ok hf
        refine r_iald X hw (hMk hw.2.2.2.2.2.1 18 rfl) (hMn hw.2.2.2.2.2.1 18 rfl) g2 dX9_notesOf_25 ?_
        refine lv_iload_n X.1 X.2.1 dX9_notesOf_26 rfl (lv_at hl 2 rfl) ?_
        refine lv_icmp_le (tgt := 33) X.1 X.2.1 dX9_notesOf_27 (by decide) (fun hq => ?_) (fun hq => ?_)
        · replace hf := cd_tk hq hf
          refine lv_aload_n X.1 X.2.1 dX9_notesOf_33 rfl (lv_at hl 0 rfl) ?_
          refine r_getF X hw (κ := 10) rfl inlX9 38 (by decide) rfl (by decide) tw_127 (hMk hw.2.2.2.2.2.1 0 rfl) (hMr hw.2.2.2.2.2.1 0 38 rfl) dX9_notesOf_34 ?_
          refine lv_bipush (v := 9) X.1 X.2.1 dX9_notesOf_37 (by decide) ?_
          refine lv_aload_n X.1 X.2.1 dX9_notesOf_39 rfl (lv_at hl 0 rfl) ?_
          refine r_getF X hw (κ := 10) rfl inlX9 29 (by decide) rfl (by decide) tw_119 (hMk hw.2.2.2.2.2.1 0 rfl) (hMr hw.2.2.2.2.2.1 0 29 rfl) dX9_notesOf_40 ?_
          refine lv_iload_n X.1 X.2.1 dX9_notesOf_43 rfl (lv_at hl 3 rfl) ?_
          obtain ⟨g3, hf⟩ := gd_ok hf
          refine r_iald X hw (hMk hw.2.2.2.2.2.1 15 rfl) (hMn hw.2.2.2.2.2.1 15 rfl) g3 dX9_notesOf_44 ?_
          refine lv_imul X.1 X.2.1 dX9_notesOf_45 ?_
          refine lv_aload_n X.1 X.2.1 dX9_notesOf_46 rfl (lv_at hl 0 rfl) ?_
          refine r_getF X hw (κ := 10) rfl inlX9 30 (by decide) rfl (by decide) tw_120 (hMk hw.2.2.2.2.2.1 0 rfl) (hMr hw.2.2.2.2.2.1 0 30 rfl) dX9_notesOf_47 ?_
          refine lv_iload_n X.1 X.2.1 dX9_notesOf_50 rfl (lv_at hl 3 rfl) ?_
          obtain ⟨g4, hf⟩ := gd_ok hf
          refine r_iald X hw (hMk hw.2.2.2.2.2.1 16 rfl) (hMn hw.2.2.2.2.2.1 16 rfl) g4 dX9_notesOf_51 ?_
          refine lv_iadd X.1 X.2.1 dX9_notesOf_52 ?_
          refine lv_aload_n X.1 X.2.1 dX9_notesOf_53 rfl (lv_at hl 0 rfl) ?_
          refine r_getF X hw (κ := 10) rfl inlX9 33 (by decide) rfl (by decide) tw_123 (hMk hw.2.2.2.2.2.1 0 rfl) (hMr hw.2.2.2.2.2.1 0 33 rfl) dX9_notesOf_54 ?_
          refine lv_iload_n X.1 X.2.1 dX9_notesOf_57 rfl (lv_at hl 3 rfl) ?_
          obtain ⟨g5, hf⟩ := gd_ok hf
          refine r_iald X hw (hMk hw.2.2.2.2.2.1 19 rfl) (hMn hw.2.2.2.2.2.1 19 rfl) g5 dX9_notesOf_58 ?_
          obtain ⟨g6, hf⟩ := gd_ok hf
          obtain ⟨S7, eS7, hf⟩ := bn_ok hf
          replace eS7 := Option.some.inj eS7
          refine r_iast X hw (hMk hw.2.2.2.2.2.1 23 rfl) (hMn hw.2.2.2.2.2.1 23 rfl) g6 hw.2.2.2.2.2 dX9_notesOf_59 (fun H locs hw => ?_)
          rw [eS7] at hw
          refine lv_aload_n X.1 X.2.1 dX9_notesOf_60 rfl (lv_at hl 0 rfl) ?_
          refine r_getF X hw (κ := 10) rfl inlX9 30 (by decide) rfl (by decide) tw_120 (hMk hw.2.2.2.2.2.1 0 rfl) (hMr hw.2.2.2.2.2.1 0 30 rfl) dX9_notesOf_61 ?_
          refine lv_iload_n X.1 X.2.1 dX9_notesOf_64 rfl (lv_at hl 3 rfl) ?_
          obtain ⟨g8, hf⟩ := gd_ok hf
          refine r_iald X hw (hMk hw.2.2.2.2.2.1 16 rfl) (hMn hw.2.2.2.2.2.1 16 rfl) g8 dX9_notesOf_65 ?_
          refine lv_bipush (v := 8) X.1 X.2.1 dX9_notesOf_66 (by decide) ?_
          refine lv_icmp_eq (tgt := 74) X.1 X.2.1 dX9_notesOf_68 (by decide) (fun hq => ?_) (fun hq => ?_)
          · replace hf := cd_tk hq hf
            refine lv_aload_n X.1 X.2.1 dX9_notesOf_74 rfl (lv_at hl 0 rfl) ?_
            refine r_getF X hw (κ := 10) rfl inlX9 48 (by decide) rfl (by decide) tw_137 (hMk hw.2.2.2.2.2.1 0 rfl) (hMr hw.2.2.2.2.2.1 0 48 rfl) dX9_notesOf_75 ?_
            refine lv_aload_n X.1 X.2.1 dX9_notesOf_78 rfl (lv_at hl 0 rfl) ?_
            refine r_getF X hw (κ := 10) rfl inlX9 29 (by decide) rfl (by decide) tw_119 (hMk hw.2.2.2.2.2.1 0 rfl) (hMr hw.2.2.2.2.2.1 0 29 rfl) dX9_notesOf_79 ?_
            refine lv_iload_n X.1 X.2.1 dX9_notesOf_82 rfl (lv_at hl 3 rfl) ?_
            obtain ⟨g9, hf⟩ := gd_ok hf
            refine r_iald X hw (hMk hw.2.2.2.2.2.1 15 rfl) (hMn hw.2.2.2.2.2.1 15 rfl) g9 dX9_notesOf_83 ?_
            refine lv_aload_n X.1 X.2.1 dX9_notesOf_84 rfl (lv_at hl 0 rfl) ?_
            refine r_getF X hw (κ := 10) rfl inlX9 33 (by decide) rfl (by decide) tw_123 (hMk hw.2.2.2.2.2.1 0 rfl) (hMr hw.2.2.2.2.2.1 0 33 rfl) dX9_notesOf_85 ?_
            refine lv_iload_n X.1 X.2.1 dX9_notesOf_88 rfl (lv_at hl 3 rfl) ?_
            obtain ⟨g10, hf⟩ := gd_ok hf
            refine r_iald X hw (hMk hw.2.2.2.2.2.1 19 rfl) (hMn hw.2.2.2.2.2.1 19 rfl) g10 dX9_notesOf_89 ?_
            refine lv_iconst (v := 1) X.1 X.2.1 dX9_notesOf_90 (by decide) ?_
            refine lv_icmp_ne (tgt := 98) X.1 X.2.1 dX9_notesOf_91 (by decide) (fun hq => ?_) (fun hq => ?_)
            · replace hf := cd_fk hq hf
              refine lv_iconst (v := 0) X.1 X.2.1 dX9_notesOf_98 (by decide) ?_
              exact w_X9_notesOf_99 X (fn_X9_notesOf_2 n) ih _ _ _ _ _ _ _ _ _ hf hw (lv_sub hl [0, 1, 2, 3] rfl)
            · replace hf := cd_tk hq hf
              refine lv_iconst (v := 1) X.1 X.2.1 dX9_notesOf_94 (by decide) ?_
              refine lv_goto (tgt := 99) X.1 X.2.1 dX9_notesOf_95 (by decide) ?_
              exact w_X9_notesOf_99 X (fn_X9_notesOf_2 n) ih _ _ _ _ _ _ _ _ _ hf hw (lv_sub hl [0, 1, 2, 3] rfl)
          · replace hf := cd_fk hq hf
            refine lv_goto (tgt := 122) X.1 X.2.1 dX9_notesOf_71 (by decide) ?_
            exact w_X9_notesOf_122 X (fn_X9_notesOf_2 n) ih _ _ _ _ _ _ _ hf hw (lv_sub hl [0, 1, 2, 3] rfl)
        · replace hf := cd_fk hq hf
          refine lv_goto (tgt := 122) X.1 X.2.1 dX9_notesOf_30 (by decide) ?_
          exact w_X9_notesOf_122 X (fn_X9_notesOf_2 n) ih _ _ _ _ _ _ _ hf hw (lv_sub hl [0, 1, 2, 3] rfl)
theorem hd_X9_notesOf : yX9_notesOf.cls = RX9 ∧ yX9_notesOf.cls ≠ "java/lang/invoke/MethodHandle" ∧ yX9_notesOf.cls ≠ "java/lang/invoke/VarHandle" ∧ (parseMethodDescriptor yX9_notesOf.desc).map (fun d => d.parameters.length) = some 2 := by decide +kernel
set_option maxHeartbeats 4000000 in
theorem c_X9_notesOf (l : Launch) (D : va_G) (B : Nat) (cy : Nat → ClassId) (A : Nat → Prop) (ad av : Nat → Nat) {z : Nat} (x1 : Int32) (x2 : Int32) {S Z : HS} (hfr : hFr S) (hG : (hMz z) S) (hf : fn_X9_notesOf x1 x2 S = some Z) : hMet l yX9_notesOf cX9_notesOf 4 none ({ frames := 0, cells := 0, slots := 0, locals := 0 } : Room) D B cy A ad av true (hMz z) [.ref (B + 0), .int x1, .int x2] S Z none 0 0 := by
  refine h_entry (by decide) hfr hG ?_
  intro p e s m below meth c args X hnm hw
  have hl := lv_entry ([.ref (B + 0), .int x1, .int x2]) (n := 4) (Nat.le_of_ble_eq_true rfl)
  rw [lg_entry_eq]
  generalize (lg_sl ([.ref (B + 0), .int x1, .int x2]) ++ List.replicate (4 - (lg_sl ([.ref (B + 0), .int x1, .int x2])).length) Slot.unset).toArray = ls at hl ⊢
  have hl : lv_has ls 4 [(0, .ref (B + 0)), (1, .int x1), (2, .int x2)] := hl
  unfold fn_X9_notesOf at hf
  refine lv_iconst (v := 0) X.1 X.2.1 dX9_notesOf_0 (by decide) ?_
  refine lv_istore_n (lv' := [(3, .int 0), (0, .ref (B + 0)), (1, .int x1), (2, .int x2)]) X.1 X.2.1 dX9_notesOf_1 rfl hl (by decide) rfl (fun ls hl => ?_)
  exact w_X9_notesOf_2 X  _ _ _ _ _ _ _ _ hf hw (lv_sub hl [1, 2, 3, 0] rfl)
set_option maxHeartbeats 4000000 in
theorem w_X9_stands_351 {p : Program} {l : Launch} {e : Env} {s : State} {m : MethodId} {args : Array Value} {below : List Frame} {meth : Method} {c : Code} {D : va_G} {B : Nat} {cy : Nat → ClassId} {A : Nat → Prop} {ad av : Nat → Nat} {Z : HS} (X : hCX p s m args meth c RX9 cX9_stands 5 none D cy A ad av) {z : Nat} (k279 : Int32 → Int32 → HS → Option HS) (hk279 : ∀ (x1 : Int32) (x3 : Int32) (S : HS) (H : Heap) (locs : List Loc) (ls : Array Slot), k279 x1 x3 S = some Z → hWd D B cy A true (hMz z) S s.heap H locs → lv_has ls 5 [(0, .ref (B + 0)), (1, .int x1), (3, .int x3)] → W p l e ({ frames := 1, cells := 0, slots := 0, locals := 23 } : Room) s m args below meth c H locs 0 0 (MQ below (hQo D B cy A true (hMz z) Z none) args s 0 0 A) (F0 m 279 ls [])) (x1 : Int32) (x3 : Int32) (S : HS) (H : Heap) (locs : List Loc) (ls : Array Slot) (hf : fn_X9_stands_351 k279 x1 x3 S = some Z) (hw : hWd D B cy A true (hMz z) S s.heap H locs) (hl : lv_has ls 5 [(0, .ref (B + 0)), (1, .int x1), (3, .int x3)]) : W p l e ({ frames := 1, cells := 0, slots := 0, locals := 23 } : Room) s m args below meth c H locs 0 0 (MQ below (hQo D B cy A true (hMz z) Z none) args s 0 0 A) (F0 m 351 ls []) := by
  unfold fn_X9_stands_351 at hf
  obtain ⟨v1, ev1, hf⟩ := bn_ok hf
  replace ev1 := Option.some.inj ev1
  refine lv_iinc (v := v1) (lv' := [(3, .int v1), (0, .ref (B + 0)), (1, .int x1)]) X.1 X.2.1 dX9_stands_351 hl (k := 2) rfl ev1 (by decide) rfl (fun ls hl => ?_)
  refine lv_goto (tgt := 279) X.1 X.2.1 dX9_stands_354 (by decide) ?_
  exact hk279 _ _ _ _ _ _ hf hw (lv_sub hl [1, 2, 0] rfl)
set_option maxHeartbeats 4000000 in
theorem w_X9_stands_348 {p : Program} {l : Launch} {e : Env} {s : State} {m : MethodId} {args : Array Value} {below : List Frame} {meth : Method} {c : Code} {D : va_G} {B : Nat} {cy : Nat → ClassId} {A : Nat → Prop} {ad av : Nat → Nat} {Z : HS} (X : hCX p s m args meth c RX9 cX9_stands 5 none D cy A ad av) {z : Nat} (k279 : Int32 → Int32 → HS → Option HS) (hk279 : ∀ (x1 : Int32) (x3 : Int32) (S : HS) (H : Heap) (locs : List Loc) (ls : Array Slot), k279 x1 x3 S = some Z → hWd D B cy A true (hMz z) S s.heap H locs → lv_has ls 5 [(0, .ref (B + 0)), (1, .int x1), (3, .int x3)] → W p l e ({ frames := 1, cells := 0, slots := 0, locals := 23 } : Room) s m args below meth c H locs 0 0 (MQ below (hQo D B cy A true (hMz z) Z none) args s 0 0 A) (F0 m 279 ls [])) (x1 : Int32) (x3 : Int32) (y0 : Int32) (y1 : Int32) (y2 : Int32) (y3 : Int32) (S : HS) (H : Heap) (locs : List Loc) (ls : Array Slot) (hf : fn_X9_stands_348 k279 x1 x3 y0 y1 y2 y3 S = some Z) (hw : hWd D B cy A true (hMz z) S s.heap H locs) (hl : lv_has ls 5 [(0, .ref (B + 0)), (1, .int x1), (3, .int x3)]) : W p l e ({ frames := 1, cells := 0, slots := 0, locals := 23 } : Room) s m args below meth c H locs 0 0 (MQ below (hQo D B cy A true (hMz z) Z none) args s 0 0 A) (F0 m 348 ls [.int y0, .int y1, .int y2, .int y3, .ref (B + 30)]) := by
  unfold fn_X9_stands_348 at hf
  refine lv_imul X.1 X.2.1 dX9_stands_348 ?_
  refine lv_iadd X.1 X.2.1 dX9_stands_349 ?_
  obtain ⟨g1, hf⟩ := gd_ok hf
  obtain ⟨S2, eS2, hf⟩ := bn_ok hf
  replace eS2 := Option.some.inj eS2
  refine r_iast X hw (hMk hw.2.2.2.2.2.1 30 rfl) (hMn hw.2.2.2.2.2.1 30 rfl) g1 hw.2.2.2.2.2 dX9_stands_350 (fun H locs hw => ?_)
  rw [eS2] at hw
  exact w_X9_stands_351 X k279 hk279 _ _ _ _ _ _ hf hw (lv_sub hl [0, 1, 2] rfl)
set_option maxHeartbeats 4000000 in
theorem w_X9_stands_279 {p : Program} {l : Launch} {e : Env} {s : State} {m : MethodId} {args : Array Value} {below : List Frame} {meth : Method} {c : Code} {D : va_G} {B : Nat} {cy : Nat → ClassId} {A : Nat → Prop} {ad av : Nat → Nat} {Z : HS} (X : hCX p s m args meth c RX9 cX9_stands 5 none D cy A ad av) {z : Nat}  : ∀ (n : Nat) (x1 : Int32) (x3 : Int32) (S : HS) (H : Heap) (locs : List Loc) (ls : Array Slot), fn_X9_stands_279 n x1 x3 S = some Z → hWd D B cy A true (hMz z) S s.heap H locs → lv_has ls 5 [(0, .ref (B + 0)), (1, .int x1), (3, .int x3)] → W p l e ({ frames := 1, cells := 0, slots := 0, locals := 23 } : Room) s m args below meth c H locs 0 0 (MQ below (hQo D B cy A true (hMz z) Z none) args s 0 0 A) (F0 m 279 ls []) := by
  intro n
  induction n with
  | zero =>
    intro x1 x3 S H locs ls hf
    cases hf
  | succ n ih =>
    intro x1 x3 S H locs ls hf hw hl
    rw [fn_X9_stands_279] at hf
    refine lv_iload_n X.1 X.2.1 dX9_stands_279 rfl (lv_at hl 2 rfl) ?_
    refine lv_bipush (v := 26) X.1 X.2.1 dX9_stands_280 (by decide) ?_
    refine lv_icmp_ge (tgt := 357) X.1 X.2.1 dX9_stands_282 (by decide) (fun hq => ?_) (fun hq => ?_)
    · replace hf := cd_tk hq hf
      cases hf
      exact r_vret X hw dX9_stands_357
    · replace hf := cd_fk hq hf
      refine lv_aload_n X.1 X.2.1 dX9_stands_285 rfl (lv_at hl 0 rfl) ?_
      refine r_getF X hw (κ := 10) rfl inlX9 35 (by decide) rfl (by decide) tw_124 (hMk hw.2.2.2.2.2.1 0 rfl) (hMr hw.2.2.2.2.2.1 0 35 rfl) dX9_stands_286 ?_
      refine lv_sipush (v := 130) X.1 X.2.1 dX9_stands_289 (by decide) ?_
      refine lv_iload_n X.1 X.2.1 dX9_stands_292 rfl (lv_at hl 2 rfl) ?_
      refine lv_iadd X.1 X.2.1 dX9_stands_293 ?_
      obtain ⟨g1, hf⟩ := gd_ok hf
      refine r_iald X hw (hMk hw.2.2.2.2.2.1 20 rfl) (hMn hw.2.2.2.2.2.1 20 rfl) g1 dX9_stands_294 ?_
      obtain ⟨v2, ev2, hf⟩ := bn_ok hf
      replace ev2 := Option.some.inj ev2
      refine lv_ren ev2 ?_
      refine lv_istore (lv' := [(4, .int v2), (0, .ref (B + 0)), (1, .int x1), (3, .int x3)]) X.1 X.2.1 dX9_stands_295 hl (by decide) rfl (fun ls hl => ?_)
      refine lv_iload X.1 X.2.1 dX9_stands_297 (lv_at hl 0 rfl) ?_
      refine lv_iconst (v := (-1)) X.1 X.2.1 dX9_stands_299 (by decide) ?_
      refine lv_icmp_eq (tgt := 351) X.1 X.2.1 dX9_stands_300 (by decide) (fun hq => ?_) (fun hq => ?_)
      · replace hf := cd_tk hq hf
        exact w_X9_stands_351 X (fn_X9_stands_279 n) ih _ _ _ _ _ _ hf hw (lv_sub hl [1, 2, 3] rfl)
      · replace hf := cd_fk hq hf
        refine lv_aload_n X.1 X.2.1 dX9_stands_303 rfl (lv_at hl 1 rfl) ?_
        refine lv_iload_n X.1 X.2.1 dX9_stands_304 rfl (lv_at hl 2 rfl) ?_
        refine lv_iload X.1 X.2.1 dX9_stands_305 (lv_at hl 0 rfl) ?_
        obtain ⟨r4, S3, hS3, hf⟩ := bn2_ok hf
        refine r_callV (As := [.int x1, .int v2]) (rest := []) (st1 := [.int r4]) (κ := 10) X hw (c_X9_holds l D B cy A ad av x1 v2 hw.2.2.2.2.1 hw.2.2.2.2.2 hS3) ⟨rfl, rfl, Nat.le_of_ble_eq_true rfl, Nat.le_of_ble_eq_true rfl⟩ rfl (by decide) (hMk hw.2.2.2.2.2.1 0 rfl) tw_794 tw_795 tw_796 tw_5 tw_797 hd_X9_holds rfl hl.1 rfl (Nat.le_of_ble_eq_true rfl) dX9_stands_307 ⟨Nat.le_of_ble_eq_true rfl, Nat.le_of_ble_eq_true rfl⟩ rfl (fun H locs hw => ?_)
        refine lv_if_eq (tgt := 351) X.1 X.2.1 dX9_stands_310 (by decide) (fun hq => ?_) (fun hq => ?_)
        · replace hf := cd_tk hq hf
          exact w_X9_stands_351 X (fn_X9_stands_279 n) ih _ _ _ _ _ _ hf hw (lv_sub hl [1, 2, 3] rfl)
        · replace hf := cd_fk hq hf
          refine lv_aload_n X.1 X.2.1 dX9_stands_313 rfl (lv_at hl 1 rfl) ?_
          refine r_getF X hw (κ := 10) rfl inlX9 45 (by decide) rfl (by decide) tw_134 (hMk hw.2.2.2.2.2.1 0 rfl) (hMr hw.2.2.2.2.2.1 0 45 rfl) dX9_stands_314 ?_
          refine lv_iload_n X.1 X.2.1 dX9_stands_317 rfl (lv_at hl 2 rfl) ?_
          refine lv_dup2_11 X.1 X.2.1 dX9_stands_318 rfl rfl ?_
          obtain ⟨g5, hf⟩ := gd_ok hf
          refine r_iald X hw (hMk hw.2.2.2.2.2.1 30 rfl) (hMn hw.2.2.2.2.2.1 30 rfl) g5 dX9_stands_319 ?_
          refine lv_aload_n X.1 X.2.1 dX9_stands_320 rfl (lv_at hl 1 rfl) ?_
          refine r_getF X hw (κ := 10) rfl inlX9 13 (by decide) rfl (by decide) tw_113 (hMk hw.2.2.2.2.2.1 0 rfl) (hMr hw.2.2.2.2.2.1 0 13 rfl) dX9_stands_321 ?_
          refine lv_iload X.1 X.2.1 dX9_stands_324 (lv_at hl 0 rfl) ?_
          obtain ⟨g6, hf⟩ := gd_ok hf
          refine r_iald X hw (hMk hw.2.2.2.2.2.1 10 rfl) (hMn hw.2.2.2.2.2.1 10 rfl) g6 dX9_stands_326 ?_
          refine lv_aload_n X.1 X.2.1 dX9_stands_327 rfl (lv_at hl 1 rfl) ?_
          refine r_getF X hw (κ := 10) rfl inlX9 14 (by decide) rfl (by decide) tw_114 (hMk hw.2.2.2.2.2.1 0 rfl) (hMr hw.2.2.2.2.2.1 0 14 rfl) dX9_stands_328 ?_
          refine lv_iload X.1 X.2.1 dX9_stands_331 (lv_at hl 0 rfl) ?_
          obtain ⟨g7, hf⟩ := gd_ok hf
          refine r_zald X hw (hMk hw.2.2.2.2.2.1 11 rfl) (hMn hw.2.2.2.2.2.1 11 rfl) g7 dX9_stands_333 ?_
          refine lv_if_eq (tgt := 346) X.1 X.2.1 dX9_stands_334 (by decide) (fun hq => ?_) (fun hq => ?_)
          · replace hf := cd_tk hq hf
            refine lv_bipush (v := 100) X.1 X.2.1 dX9_stands_346 (by decide) ?_
            exact w_X9_stands_348 X (fn_X9_stands_279 n) ih _ _ _ _ _ _ _ _ _ _ hf hw (lv_sub hl [1, 2, 3] rfl)
          · replace hf := cd_fk hq hf
            refine lv_aload_n X.1 X.2.1 dX9_stands_337 rfl (lv_at hl 1 rfl) ?_
            refine r_getF X hw (κ := 10) rfl inlX9 44 (by decide) rfl (by decide) tw_133 (hMk hw.2.2.2.2.2.1 0 rfl) (hMr hw.2.2.2.2.2.1 0 44 rfl) dX9_stands_338 ?_
            refine lv_iload_n X.1 X.2.1 dX9_stands_341 rfl (lv_at hl 2 rfl) ?_
            obtain ⟨g8, hf⟩ := gd_ok hf
            refine r_iald X hw (hMk hw.2.2.2.2.2.1 29 rfl) (hMn hw.2.2.2.2.2.1 29 rfl) g8 dX9_stands_342 ?_
            refine lv_goto (tgt := 348) X.1 X.2.1 dX9_stands_343 (by decide) ?_
            exact w_X9_stands_348 X (fn_X9_stands_279 n) ih _ _ _ _ _ _ _ _ _ _ hf hw (lv_sub hl [1, 2, 3] rfl)
set_option maxHeartbeats 4000000 in
theorem w_X9_stands_261 {p : Program} {l : Launch} {e : Env} {s : State} {m : MethodId} {args : Array Value} {below : List Frame} {meth : Method} {c : Code} {D : va_G} {B : Nat} {cy : Nat → ClassId} {A : Nat → Prop} {ad av : Nat → Nat} {Z : HS} (X : hCX p s m args meth c RX9 cX9_stands 5 none D cy A ad av) {z : Nat}  (x1 : Int32) (y0 : Int32) (y1 : Int32) (S : HS) (H : Heap) (locs : List Loc) (ls : Array Slot) (hf : fn_X9_stands_261 x1 y0 y1 S = some Z) (hw : hWd D B cy A true (hMz z) S s.heap H locs) (hl : lv_has ls 5 [(0, .ref (B + 0)), (1, .int x1)]) : W p l e ({ frames := 1, cells := 0, slots := 0, locals := 23 } : Room) s m args below meth c H locs 0 0 (MQ below (hQo D B cy A true (hMz z) Z none) args s 0 0 A) (F0 m 261 ls [.int y0, .int y1, .ref (B + 29)]) := by
  unfold fn_X9_stands_261 at hf
  obtain ⟨g1, hf⟩ := gd_ok hf
  obtain ⟨S2, eS2, hf⟩ := bn_ok hf
  replace eS2 := Option.some.inj eS2
  refine r_iast X hw (hMk hw.2.2.2.2.2.1 29 rfl) (hMn hw.2.2.2.2.2.1 29 rfl) g1 hw.2.2.2.2.2 dX9_stands_261 (fun H locs hw => ?_)
  rw [eS2] at hw
  refine lv_aload_n X.1 X.2.1 dX9_stands_262 rfl (lv_at hl 0 rfl) ?_
  refine r_getF X hw (κ := 10) rfl inlX9 45 (by decide) rfl (by decide) tw_134 (hMk hw.2.2.2.2.2.1 0 rfl) (hMr hw.2.2.2.2.2.1 0 45 rfl) dX9_stands_263 ?_
  refine lv_iload_n X.1 X.2.1 dX9_stands_266 rfl (lv_at hl 1 rfl) ?_
  refine lv_bipush (v := 100) X.1 X.2.1 dX9_stands_267 (by decide) ?_
  refine lv_aload_n X.1 X.2.1 dX9_stands_269 rfl (lv_at hl 0 rfl) ?_
  refine r_getF X hw (κ := 10) rfl inlX9 44 (by decide) rfl (by decide) tw_133 (hMk hw.2.2.2.2.2.1 0 rfl) (hMr hw.2.2.2.2.2.1 0 44 rfl) dX9_stands_270 ?_
  refine lv_iload_n X.1 X.2.1 dX9_stands_273 rfl (lv_at hl 1 rfl) ?_
  obtain ⟨g3, hf⟩ := gd_ok hf
  refine r_iald X hw (hMk hw.2.2.2.2.2.1 29 rfl) (hMn hw.2.2.2.2.2.1 29 rfl) g3 dX9_stands_274 ?_
  refine lv_imul X.1 X.2.1 dX9_stands_275 ?_
  obtain ⟨g4, hf⟩ := gd_ok hf
  obtain ⟨S5, eS5, hf⟩ := bn_ok hf
  replace eS5 := Option.some.inj eS5
  refine r_iast X hw (hMk hw.2.2.2.2.2.1 30 rfl) (hMn hw.2.2.2.2.2.1 30 rfl) g4 hw.2.2.2.2.2 dX9_stands_276 (fun H locs hw => ?_)
  rw [eS5] at hw
  refine lv_iconst (v := 0) X.1 X.2.1 dX9_stands_277 (by decide) ?_
  refine lv_istore_n (lv' := [(3, .int 0), (0, .ref (B + 0)), (1, .int x1)]) X.1 X.2.1 dX9_stands_278 rfl hl (by decide) rfl (fun ls hl => ?_)
  exact w_X9_stands_279 X  _ _ _ _ _ _ _ hf hw (lv_sub hl [1, 2, 0] rfl)
set_option maxHeartbeats 4000000 in
theorem w_X9_stands_230 {p : Program} {l : Launch} {e : Env} {s : State} {m : MethodId} {args : Array Value} {below : List Frame} {meth : Method} {c : Code} {D : va_G} {B : Nat} {cy : Nat → ClassId} {A : Nat → Prop} {ad av : Nat → Nat} {Z : HS} (X : hCX p s m args meth c RX9 cX9_stands 5 none D cy A ad av) {z : Nat}  (x1 : Int32) (x2 : Int32) (y0 : Int32) (y1 : Int32) (S : HS) (H : Heap) (locs : List Loc) (ls : Array Slot) (hf : fn_X9_stands_230 x1 x2 y0 y1 S = some Z) (hw : hWd D B cy A true (hMz z) S s.heap H locs) (hl : lv_has ls 5 [(0, .ref (B + 0)), (1, .int x1), (2, .int x2)]) : W p l e ({ frames := 1, cells := 0, slots := 0, locals := 23 } : Room) s m args below meth c H locs 0 0 (MQ below (hQo D B cy A true (hMz z) Z none) args s 0 0 A) (F0 m 230 ls [.int y0, .int y1, .ref (B + 28)]) := by
  unfold fn_X9_stands_230 at hf
  obtain ⟨g1, hf⟩ := gd_ok hf
  obtain ⟨S2, eS2, hf⟩ := bn_ok hf
  replace eS2 := Option.some.inj eS2
  refine r_iast X hw (hMk hw.2.2.2.2.2.1 28 rfl) (hMn hw.2.2.2.2.2.1 28 rfl) g1 hw.2.2.2.2.2 dX9_stands_230 (fun H locs hw => ?_)
  rw [eS2] at hw
  refine lv_aload_n X.1 X.2.1 dX9_stands_231 rfl (lv_at hl 0 rfl) ?_
  refine r_getF X hw (κ := 10) rfl inlX9 44 (by decide) rfl (by decide) tw_133 (hMk hw.2.2.2.2.2.1 0 rfl) (hMr hw.2.2.2.2.2.1 0 44 rfl) dX9_stands_232 ?_
  refine lv_iload_n X.1 X.2.1 dX9_stands_235 rfl (lv_at hl 1 rfl) ?_
  refine lv_iload_n X.1 X.2.1 dX9_stands_236 rfl (lv_at hl 2 rfl) ?_
  refine lv_iconst (v := (-1)) X.1 X.2.1 dX9_stands_237 (by decide) ?_
  refine lv_icmp_ne (tgt := 245) X.1 X.2.1 dX9_stands_238 (by decide) (fun hq => ?_) (fun hq => ?_)
  · replace hf := cd_fk hq hf
    refine lv_aload_n X.1 X.2.1 dX9_stands_245 rfl (lv_at hl 0 rfl) ?_
    refine r_getF X hw (κ := 10) rfl inlX9 15 (by decide) rfl (by decide) tw_115 (hMk hw.2.2.2.2.2.1 0 rfl) (hMr hw.2.2.2.2.2.1 0 15 rfl) dX9_stands_246 ?_
    refine lv_bipush (v := 8) X.1 X.2.1 dX9_stands_249 (by decide) ?_
    refine lv_iload_n X.1 X.2.1 dX9_stands_251 rfl (lv_at hl 2 rfl) ?_
    refine lv_imul X.1 X.2.1 dX9_stands_252 ?_
    refine lv_aload_n X.1 X.2.1 dX9_stands_253 rfl (lv_at hl 0 rfl) ?_
    refine r_getF X hw (κ := 10) rfl inlX9 43 (by decide) rfl (by decide) tw_132 (hMk hw.2.2.2.2.2.1 0 rfl) (hMr hw.2.2.2.2.2.1 0 43 rfl) dX9_stands_254 ?_
    refine lv_iload_n X.1 X.2.1 dX9_stands_257 rfl (lv_at hl 1 rfl) ?_
    obtain ⟨g3, hf⟩ := gd_ok hf
    refine r_iald X hw (hMk hw.2.2.2.2.2.1 28 rfl) (hMn hw.2.2.2.2.2.1 28 rfl) g3 dX9_stands_258 ?_
    refine lv_iadd X.1 X.2.1 dX9_stands_259 ?_
    obtain ⟨g4, hf⟩ := gd_ok hf
    refine r_iald X hw (hMk hw.2.2.2.2.2.1 12 rfl) (hMn hw.2.2.2.2.2.1 12 rfl) g4 dX9_stands_260 ?_
    exact w_X9_stands_261 X  _ _ _ _ _ _ _ hf hw (lv_sub hl [0, 1] rfl)
  · replace hf := cd_tk hq hf
    refine lv_iconst (v := 0) X.1 X.2.1 dX9_stands_241 (by decide) ?_
    refine lv_goto (tgt := 261) X.1 X.2.1 dX9_stands_242 (by decide) ?_
    exact w_X9_stands_261 X  _ _ _ _ _ _ _ hf hw (lv_sub hl [0, 1] rfl)
set_option maxHeartbeats 4000000 in
theorem w_X9_stands_184 {p : Program} {l : Launch} {e : Env} {s : State} {m : MethodId} {args : Array Value} {below : List Frame} {meth : Method} {c : Code} {D : va_G} {B : Nat} {cy : Nat → ClassId} {A : Nat → Prop} {ad av : Nat → Nat} {Z : HS} (X : hCX p s m args meth c RX9 cX9_stands 5 none D cy A ad av) {z : Nat}  (x1 : Int32) (y0 : Int32) (S : HS) (H : Heap) (locs : List Loc) (ls : Array Slot) (hf : fn_X9_stands_184 x1 y0 S = some Z) (hw : hWd D B cy A true (hMz z) S s.heap H locs) (hl : lv_has ls 5 [(0, .ref (B + 0)), (1, .int x1)]) : W p l e ({ frames := 1, cells := 0, slots := 0, locals := 23 } : Room) s m args below meth c H locs 0 0 (MQ below (hQo D B cy A true (hMz z) Z none) args s 0 0 A) (F0 m 184 ls [.int y0]) := by
  unfold fn_X9_stands_184 at hf
  refine lv_istore_n (lv' := [(2, .int y0), (0, .ref (B + 0)), (1, .int x1)]) X.1 X.2.1 dX9_stands_184 rfl hl (by decide) rfl (fun ls hl => ?_)
  refine lv_aload_n X.1 X.2.1 dX9_stands_185 rfl (lv_at hl 1 rfl) ?_
  refine r_getF X hw (κ := 10) rfl inlX9 43 (by decide) rfl (by decide) tw_132 (hMk hw.2.2.2.2.2.1 0 rfl) (hMr hw.2.2.2.2.2.1 0 43 rfl) dX9_stands_186 ?_
  refine lv_iload_n X.1 X.2.1 dX9_stands_189 rfl (lv_at hl 2 rfl) ?_
  refine lv_iload_n X.1 X.2.1 dX9_stands_190 rfl (lv_at hl 0 rfl) ?_
  refine lv_iconst (v := (-1)) X.1 X.2.1 dX9_stands_191 (by decide) ?_
  refine lv_icmp_ne (tgt := 199) X.1 X.2.1 dX9_stands_192 (by decide) (fun hq => ?_) (fun hq => ?_)
  · replace hf := cd_fk hq hf
    refine lv_aload_n X.1 X.2.1 dX9_stands_199 rfl (lv_at hl 1 rfl) ?_
    refine r_getF X hw (κ := 10) rfl inlX9 39 (by decide) rfl (by decide) tw_128 (hMk hw.2.2.2.2.2.1 0 rfl) (hMr hw.2.2.2.2.2.1 0 39 rfl) dX9_stands_200 ?_
    refine lv_aload_n X.1 X.2.1 dX9_stands_203 rfl (lv_at hl 1 rfl) ?_
    refine r_getF X hw (κ := 10) rfl inlX9 27 (by decide) rfl (by decide) tw_118 (hMk hw.2.2.2.2.2.1 0 rfl) (hMr hw.2.2.2.2.2.1 0 27 rfl) dX9_stands_204 ?_
    refine lv_iload_n X.1 X.2.1 dX9_stands_207 rfl (lv_at hl 2 rfl) ?_
    obtain ⟨g1, hf⟩ := gd_ok hf
    refine r_iald X hw (hMk hw.2.2.2.2.2.1 14 rfl) (hMn hw.2.2.2.2.2.1 14 rfl) g1 dX9_stands_208 ?_
    obtain ⟨g2, hf⟩ := gd_ok hf
    refine r_iald X hw (hMk hw.2.2.2.2.2.1 24 rfl) (hMn hw.2.2.2.2.2.1 24 rfl) g2 dX9_stands_209 ?_
    refine lv_aload_n X.1 X.2.1 dX9_stands_210 rfl (lv_at hl 1 rfl) ?_
    refine lv_iconst (v := 3) X.1 X.2.1 dX9_stands_211 (by decide) ?_
    refine lv_sipush (v := 360) X.1 X.2.1 dX9_stands_212 (by decide) ?_
    obtain ⟨r4, S3, hS3, hf⟩ := bn2_ok hf
    refine r_callV (As := [.int 3, .int 360]) (rest := [.int (gI S 24 (gI S 14 x1.toNatClampNeg : Int32).toNatClampNeg), .int x1, .ref (B + 28)]) (st1 := [.int r4, .int (gI S 24 (gI S 14 x1.toNatClampNeg : Int32).toNatClampNeg), .int x1, .ref (B + 28)]) (κ := 10) X hw (c_X9_numberOf l D B cy A ad av 3 360 hw.2.2.2.2.1 hw.2.2.2.2.2 hS3) ⟨rfl, rfl, Nat.le_of_ble_eq_true rfl, Nat.le_of_ble_eq_true rfl⟩ rfl (by decide) (hMk hw.2.2.2.2.2.1 0 rfl) tw_773 tw_774 tw_775 tw_5 tw_776 hd_X9_numberOf rfl hl.1 rfl (Nat.le_of_ble_eq_true rfl) dX9_stands_215 ⟨Nat.le_of_ble_eq_true rfl, Nat.le_of_ble_eq_true rfl⟩ rfl (fun H locs hw => ?_)
    obtain ⟨hq, hf⟩ := gd_ok hf
    refine lv_idiv X.1 X.2.1 dX9_stands_218 hq ?_
    refine lv_aload_n X.1 X.2.1 dX9_stands_219 rfl (lv_at hl 1 rfl) ?_
    refine r_getF X hw (κ := 10) rfl inlX9 16 (by decide) rfl (by decide) tw_116 (hMk hw.2.2.2.2.2.1 0 rfl) (hMr hw.2.2.2.2.2.1 0 16 rfl) dX9_stands_220 ?_
    refine lv_iload_n X.1 X.2.1 dX9_stands_223 rfl (lv_at hl 0 rfl) ?_
    obtain ⟨g5, hf⟩ := gd_ok hf
    refine r_iald X hw (hMk hw.2.2.2.2.2.1 13 rfl) (hMn hw.2.2.2.2.2.1 13 rfl) g5 dX9_stands_224 ?_
    refine lv_iconst (v := 1) X.1 X.2.1 dX9_stands_225 (by decide) ?_
    refine lv_isub X.1 X.2.1 dX9_stands_226 ?_
    refine r_mmin X hl.1 tw_793 (by decide) (Nat.le_of_ble_eq_true rfl) (by decide) (by decide) dX9_stands_227 ?_
    exact w_X9_stands_230 X  _ _ _ _ _ _ _ _ hf hw (lv_sub hl [1, 2, 0] rfl)
  · replace hf := cd_tk hq hf
    refine lv_iconst (v := (-1)) X.1 X.2.1 dX9_stands_195 (by decide) ?_
    refine lv_goto (tgt := 230) X.1 X.2.1 dX9_stands_196 (by decide) ?_
    exact w_X9_stands_230 X  _ _ _ _ _ _ _ _ hf hw (lv_sub hl [1, 2, 0] rfl)
set_option maxHeartbeats 4000000 in
theorem w_X9_stands_150 {p : Program} {l : Launch} {e : Env} {s : State} {m : MethodId} {args : Array Value} {below : List Frame} {meth : Method} {c : Code} {D : va_G} {B : Nat} {cy : Nat → ClassId} {A : Nat → Prop} {ad av : Nat → Nat} {Z : HS} (X : hCX p s m args meth c RX9 cX9_stands 5 none D cy A ad av) {z : Nat} (k66 : Int32 → Int32 → HS → Option HS) (hk66 : ∀ (x1 : Int32) (x2 : Int32) (S : HS) (H : Heap) (locs : List Loc) (ls : Array Slot), k66 x1 x2 S = some Z → hWd D B cy A true (hMz z) S s.heap H locs → lv_has ls 5 [(0, .ref (B + 0)), (1, .int x1), (2, .int x2)] → W p l e ({ frames := 1, cells := 0, slots := 0, locals := 23 } : Room) s m args below meth c H locs 0 0 (MQ below (hQo D B cy A true (hMz z) Z none) args s 0 0 A) (F0 m 66 ls [])) (x1 : Int32) (x2 : Int32) (S : HS) (H : Heap) (locs : List Loc) (ls : Array Slot) (hf : fn_X9_stands_150 k66 x1 x2 S = some Z) (hw : hWd D B cy A true (hMz z) S s.heap H locs) (hl : lv_has ls 5 [(0, .ref (B + 0)), (1, .int x1), (2, .int x2)]) : W p l e ({ frames := 1, cells := 0, slots := 0, locals := 23 } : Room) s m args below meth c H locs 0 0 (MQ below (hQo D B cy A true (hMz z) Z none) args s 0 0 A) (F0 m 150 ls []) := by
  unfold fn_X9_stands_150 at hf
  obtain ⟨v1, ev1, hf⟩ := bn_ok hf
  replace ev1 := Option.some.inj ev1
  refine lv_iinc (v := v1) (lv' := [(2, .int v1), (0, .ref (B + 0)), (1, .int x1)]) X.1 X.2.1 dX9_stands_150 hl (k := 2) rfl ev1 (by decide) rfl (fun ls hl => ?_)
  refine lv_goto (tgt := 66) X.1 X.2.1 dX9_stands_153 (by decide) ?_
  exact hk66 _ _ _ _ _ _ hf hw (lv_sub hl [1, 2, 0] rfl)
set_option maxHeartbeats 4000000 in
theorem w_X9_stands_143 {p : Program} {l : Launch} {e : Env} {s : State} {m : MethodId} {args : Array Value} {below : List Frame} {meth : Method} {c : Code} {D : va_G} {B : Nat} {cy : Nat → ClassId} {A : Nat → Prop} {ad av : Nat → Nat} {Z : HS} (X : hCX p s m args meth c RX9 cX9_stands 5 none D cy A ad av) {z : Nat} (k66 : Int32 → Int32 → HS → Option HS) (hk66 : ∀ (x1 : Int32) (x2 : Int32) (S : HS) (H : Heap) (locs : List Loc) (ls : Array Slot), k66 x1 x2 S = some Z → hWd D B cy A true (hMz z) S s.heap H locs → lv_has ls 5 [(0, .ref (B + 0)), (1, .int x1), (2, .int x2)] → W p l e ({ frames := 1, cells := 0, slots := 0, locals := 23 } : Room) s m args below meth c H locs 0 0 (MQ below (hQo D B cy A true (hMz z) Z none) args s 0 0 A) (F0 m 66 ls [])) (x1 : Int32) (x2 : Int32) (S : HS) (H : Heap) (locs : List Loc) (ls : Array Slot) (hf : fn_X9_stands_143 k66 x1 x2 S = some Z) (hw : hWd D B cy A true (hMz z) S s.heap H locs) (hl : lv_has ls 5 [(0, .ref (B + 0)), (1, .int x1), (2, .int x2)]) : W p l e ({ frames := 1, cells := 0, slots := 0, locals := 23 } : Room) s m args below meth c H locs 0 0 (MQ below (hQo D B cy A true (hMz z) Z none) args s 0 0 A) (F0 m 143 ls []) := by
  unfold fn_X9_stands_143 at hf
  refine lv_aload_n X.1 X.2.1 dX9_stands_143 rfl (lv_at hl 0 rfl) ?_
  refine r_getF X hw (κ := 10) rfl inlX9 42 (by decide) rfl (by decide) tw_131 (hMk hw.2.2.2.2.2.1 0 rfl) (hMr hw.2.2.2.2.2.1 0 42 rfl) dX9_stands_144 ?_
  refine lv_iload_n X.1 X.2.1 dX9_stands_147 rfl (lv_at hl 1 rfl) ?_
  refine lv_iload_n X.1 X.2.1 dX9_stands_148 rfl (lv_at hl 2 rfl) ?_
  obtain ⟨g1, hf⟩ := gd_ok hf
  obtain ⟨S2, eS2, hf⟩ := bn_ok hf
  replace eS2 := Option.some.inj eS2
  refine r_iast X hw (hMk hw.2.2.2.2.2.1 27 rfl) (hMn hw.2.2.2.2.2.1 27 rfl) g1 hw.2.2.2.2.2 dX9_stands_149 (fun H locs hw => ?_)
  rw [eS2] at hw
  exact w_X9_stands_150 X k66 hk66 _ _ _ _ _ _ hf hw (lv_sub hl [0, 1, 2] rfl)
set_option maxHeartbeats 4000000 in
theorem w_X9_stands_66 {p : Program} {l : Launch} {e : Env} {s : State} {m : MethodId} {args : Array Value} {below : List Frame} {meth : Method} {c : Code} {D : va_G} {B : Nat} {cy : Nat → ClassId} {A : Nat → Prop} {ad av : Nat → Nat} {Z : HS} (X : hCX p s m args meth c RX9 cX9_stands 5 none D cy A ad av) {z : Nat}  : ∀ (n : Nat) (x1 : Int32) (x2 : Int32) (S : HS) (H : Heap) (locs : List Loc) (ls : Array Slot), fn_X9_stands_66 n x1 x2 S = some Z → hWd D B cy A true (hMz z) S s.heap H locs → lv_has ls 5 [(0, .ref (B + 0)), (1, .int x1), (2, .int x2)] → W p l e ({ frames := 1, cells := 0, slots := 0, locals := 23 } : Room) s m args below meth c H locs 0 0 (MQ below (hQo D B cy A true (hMz z) Z none) args s 0 0 A) (F0 m 66 ls []) := by
  intro n
  induction n with
  | zero =>
    intro x1 x2 S H locs ls hf
    cases hf
  | succ n ih =>
    intro x1 x2 S H locs ls hf hw hl
    rw [fn_X9_stands_66] at hf
    refine lv_iload_n X.1 X.2.1 dX9_stands_66 rfl (lv_at hl 2 rfl) ?_
    refine lv_bipush (v := 26) X.1 X.2.1 dX9_stands_67 (by decide) ?_
    refine lv_icmp_ge (tgt := 156) X.1 X.2.1 dX9_stands_69 (by decide) (fun hq => ?_) (fun hq => ?_)
    · replace hf := cd_tk hq hf
      refine lv_aload_n X.1 X.2.1 dX9_stands_156 rfl (lv_at hl 0 rfl) ?_
      refine r_getF X hw (κ := 10) rfl inlX9 42 (by decide) rfl (by decide) tw_131 (hMk hw.2.2.2.2.2.1 0 rfl) (hMr hw.2.2.2.2.2.1 0 42 rfl) dX9_stands_157 ?_
      refine lv_iload_n X.1 X.2.1 dX9_stands_160 rfl (lv_at hl 1 rfl) ?_
      obtain ⟨g1, hf⟩ := gd_ok hf
      refine r_iald X hw (hMk hw.2.2.2.2.2.1 27 rfl) (hMn hw.2.2.2.2.2.1 27 rfl) g1 dX9_stands_161 ?_
      refine lv_iconst (v := (-1)) X.1 X.2.1 dX9_stands_162 (by decide) ?_
      refine lv_icmp_ne (tgt := 170) X.1 X.2.1 dX9_stands_163 (by decide) (fun hq => ?_) (fun hq => ?_)
      · replace hf := cd_fk hq hf
        refine lv_aload_n X.1 X.2.1 dX9_stands_170 rfl (lv_at hl 0 rfl) ?_
        refine r_getF X hw (κ := 10) rfl inlX9 35 (by decide) rfl (by decide) tw_124 (hMk hw.2.2.2.2.2.1 0 rfl) (hMr hw.2.2.2.2.2.1 0 35 rfl) dX9_stands_171 ?_
        refine lv_bipush (v := 52) X.1 X.2.1 dX9_stands_174 (by decide) ?_
        refine lv_aload_n X.1 X.2.1 dX9_stands_176 rfl (lv_at hl 0 rfl) ?_
        refine r_getF X hw (κ := 10) rfl inlX9 42 (by decide) rfl (by decide) tw_131 (hMk hw.2.2.2.2.2.1 0 rfl) (hMr hw.2.2.2.2.2.1 0 42 rfl) dX9_stands_177 ?_
        refine lv_iload_n X.1 X.2.1 dX9_stands_180 rfl (lv_at hl 1 rfl) ?_
        obtain ⟨g2, hf⟩ := gd_ok hf
        refine r_iald X hw (hMk hw.2.2.2.2.2.1 27 rfl) (hMn hw.2.2.2.2.2.1 27 rfl) g2 dX9_stands_181 ?_
        refine lv_iadd X.1 X.2.1 dX9_stands_182 ?_
        obtain ⟨g3, hf⟩ := gd_ok hf
        refine r_iald X hw (hMk hw.2.2.2.2.2.1 20 rfl) (hMn hw.2.2.2.2.2.1 20 rfl) g3 dX9_stands_183 ?_
        exact w_X9_stands_184 X  _ _ _ _ _ _ hf hw (lv_sub hl [0, 1] rfl)
      · replace hf := cd_tk hq hf
        refine lv_iconst (v := (-1)) X.1 X.2.1 dX9_stands_166 (by decide) ?_
        refine lv_goto (tgt := 184) X.1 X.2.1 dX9_stands_167 (by decide) ?_
        exact w_X9_stands_184 X  _ _ _ _ _ _ hf hw (lv_sub hl [0, 1] rfl)
    · replace hf := cd_fk hq hf
      refine lv_aload_n X.1 X.2.1 dX9_stands_72 rfl (lv_at hl 0 rfl) ?_
      refine r_getF X hw (κ := 10) rfl inlX9 35 (by decide) rfl (by decide) tw_124 (hMk hw.2.2.2.2.2.1 0 rfl) (hMr hw.2.2.2.2.2.1 0 35 rfl) dX9_stands_73 ?_
      refine lv_bipush (v := 26) X.1 X.2.1 dX9_stands_76 (by decide) ?_
      refine lv_iload_n X.1 X.2.1 dX9_stands_78 rfl (lv_at hl 2 rfl) ?_
      refine lv_iadd X.1 X.2.1 dX9_stands_79 ?_
      obtain ⟨g4, hf⟩ := gd_ok hf
      refine r_iald X hw (hMk hw.2.2.2.2.2.1 20 rfl) (hMn hw.2.2.2.2.2.1 20 rfl) g4 dX9_stands_80 ?_
      obtain ⟨v5, ev5, hf⟩ := bn_ok hf
      replace ev5 := Option.some.inj ev5
      refine lv_ren ev5 ?_
      refine lv_istore_n (lv' := [(3, .int v5), (0, .ref (B + 0)), (1, .int x1), (2, .int x2)]) X.1 X.2.1 dX9_stands_81 rfl hl (by decide) rfl (fun ls hl => ?_)
      refine lv_iload_n X.1 X.2.1 dX9_stands_82 rfl (lv_at hl 0 rfl) ?_
      refine lv_iconst (v := (-1)) X.1 X.2.1 dX9_stands_83 (by decide) ?_
      refine lv_icmp_eq (tgt := 150) X.1 X.2.1 dX9_stands_84 (by decide) (fun hq => ?_) (fun hq => ?_)
      · replace hf := cd_tk hq hf
        exact w_X9_stands_150 X (fn_X9_stands_66 n) ih _ _ _ _ _ _ hf hw (lv_sub hl [1, 2, 3] rfl)
      · replace hf := cd_fk hq hf
        refine lv_aload_n X.1 X.2.1 dX9_stands_87 rfl (lv_at hl 1 rfl) ?_
        refine r_getF X hw (κ := 10) rfl inlX9 13 (by decide) rfl (by decide) tw_113 (hMk hw.2.2.2.2.2.1 0 rfl) (hMr hw.2.2.2.2.2.1 0 13 rfl) dX9_stands_88 ?_
        refine lv_iload_n X.1 X.2.1 dX9_stands_91 rfl (lv_at hl 0 rfl) ?_
        obtain ⟨g6, hf⟩ := gd_ok hf
        refine r_iald X hw (hMk hw.2.2.2.2.2.1 10 rfl) (hMn hw.2.2.2.2.2.1 10 rfl) g6 dX9_stands_92 ?_
        refine lv_aload_n X.1 X.2.1 dX9_stands_93 rfl (lv_at hl 1 rfl) ?_
        refine r_getF X hw (κ := 10) rfl inlX9 41 (by decide) rfl (by decide) tw_130 (hMk hw.2.2.2.2.2.1 0 rfl) (hMr hw.2.2.2.2.2.1 0 41 rfl) dX9_stands_94 ?_
        refine lv_iload_n X.1 X.2.1 dX9_stands_97 rfl (lv_at hl 2 rfl) ?_
        obtain ⟨g7, hf⟩ := gd_ok hf
        refine r_iald X hw (hMk hw.2.2.2.2.2.1 26 rfl) (hMn hw.2.2.2.2.2.1 26 rfl) g7 dX9_stands_98 ?_
        refine lv_icmp_le (tgt := 105) X.1 X.2.1 dX9_stands_99 (by decide) (fun hq => ?_) (fun hq => ?_)
        · replace hf := cd_tk hq hf
          refine lv_aload_n X.1 X.2.1 dX9_stands_105 rfl (lv_at hl 1 rfl) ?_
          refine r_getF X hw (κ := 10) rfl inlX9 42 (by decide) rfl (by decide) tw_131 (hMk hw.2.2.2.2.2.1 0 rfl) (hMr hw.2.2.2.2.2.1 0 42 rfl) dX9_stands_106 ?_
          refine lv_iload_n X.1 X.2.1 dX9_stands_109 rfl (lv_at hl 2 rfl) ?_
          obtain ⟨g8, hf⟩ := gd_ok hf
          refine r_iald X hw (hMk hw.2.2.2.2.2.1 27 rfl) (hMn hw.2.2.2.2.2.1 27 rfl) g8 dX9_stands_110 ?_
          refine lv_iconst (v := (-1)) X.1 X.2.1 dX9_stands_111 (by decide) ?_
          refine lv_icmp_eq (tgt := 143) X.1 X.2.1 dX9_stands_112 (by decide) (fun hq => ?_) (fun hq => ?_)
          · replace hf := cd_tk hq hf
            exact w_X9_stands_143 X (fn_X9_stands_66 n) ih _ _ _ _ _ _ hf hw (lv_sub hl [1, 2, 3] rfl)
          · replace hf := cd_fk hq hf
            refine lv_aload_n X.1 X.2.1 dX9_stands_115 rfl (lv_at hl 1 rfl) ?_
            refine r_getF X hw (κ := 10) rfl inlX9 13 (by decide) rfl (by decide) tw_113 (hMk hw.2.2.2.2.2.1 0 rfl) (hMr hw.2.2.2.2.2.1 0 13 rfl) dX9_stands_116 ?_
            refine lv_iload_n X.1 X.2.1 dX9_stands_119 rfl (lv_at hl 0 rfl) ?_
            obtain ⟨g9, hf⟩ := gd_ok hf
            refine r_iald X hw (hMk hw.2.2.2.2.2.1 10 rfl) (hMn hw.2.2.2.2.2.1 10 rfl) g9 dX9_stands_120 ?_
            refine lv_aload_n X.1 X.2.1 dX9_stands_121 rfl (lv_at hl 1 rfl) ?_
            refine r_getF X hw (κ := 10) rfl inlX9 13 (by decide) rfl (by decide) tw_113 (hMk hw.2.2.2.2.2.1 0 rfl) (hMr hw.2.2.2.2.2.1 0 13 rfl) dX9_stands_122 ?_
            refine lv_aload_n X.1 X.2.1 dX9_stands_125 rfl (lv_at hl 1 rfl) ?_
            refine r_getF X hw (κ := 10) rfl inlX9 35 (by decide) rfl (by decide) tw_124 (hMk hw.2.2.2.2.2.1 0 rfl) (hMr hw.2.2.2.2.2.1 0 35 rfl) dX9_stands_126 ?_
            refine lv_bipush (v := 26) X.1 X.2.1 dX9_stands_129 (by decide) ?_
            refine lv_aload_n X.1 X.2.1 dX9_stands_131 rfl (lv_at hl 1 rfl) ?_
            refine r_getF X hw (κ := 10) rfl inlX9 42 (by decide) rfl (by decide) tw_131 (hMk hw.2.2.2.2.2.1 0 rfl) (hMr hw.2.2.2.2.2.1 0 42 rfl) dX9_stands_132 ?_
            refine lv_iload_n X.1 X.2.1 dX9_stands_135 rfl (lv_at hl 2 rfl) ?_
            obtain ⟨g10, hf⟩ := gd_ok hf
            refine r_iald X hw (hMk hw.2.2.2.2.2.1 27 rfl) (hMn hw.2.2.2.2.2.1 27 rfl) g10 dX9_stands_136 ?_
            refine lv_iadd X.1 X.2.1 dX9_stands_137 ?_
            obtain ⟨g11, hf⟩ := gd_ok hf
            refine r_iald X hw (hMk hw.2.2.2.2.2.1 20 rfl) (hMn hw.2.2.2.2.2.1 20 rfl) g11 dX9_stands_138 ?_
            obtain ⟨g12, hf⟩ := gd_ok hf
            refine r_iald X hw (hMk hw.2.2.2.2.2.1 10 rfl) (hMn hw.2.2.2.2.2.1 10 rfl) g12 dX9_stands_139 ?_
            refine lv_icmp_le (tgt := 150) X.1 X.2.1 dX9_stands_140 (by decide) (fun hq => ?_) (fun hq => ?_)
            · replace hf := cd_tk hq hf
              exact w_X9_stands_150 X (fn_X9_stands_66 n) ih _ _ _ _ _ _ hf hw (lv_sub hl [1, 2, 3] rfl)
            · replace hf := cd_fk hq hf
              exact w_X9_stands_143 X (fn_X9_stands_66 n) ih _ _ _ _ _ _ hf hw (lv_sub hl [1, 2, 3] rfl)
        · replace hf := cd_fk hq hf
          refine lv_goto (tgt := 150) X.1 X.2.1 dX9_stands_102 (by decide) ?_
          exact w_X9_stands_150 X (fn_X9_stands_66 n) ih _ _ _ _ _ _ hf hw (lv_sub hl [1, 2, 3] rfl)
set_option maxHeartbeats 4000000 in
theorem w_X9_stands_58 {p : Program} {l : Launch} {e : Env} {s : State} {m : MethodId} {args : Array Value} {below : List Frame} {meth : Method} {c : Code} {D : va_G} {B : Nat} {cy : Nat → ClassId} {A : Nat → Prop} {ad av : Nat → Nat} {Z : HS} (X : hCX p s m args meth c RX9 cX9_stands 5 none D cy A ad av) {z : Nat} (k16 : Int32 → Int32 → HS → Option HS) (hk16 : ∀ (x1 : Int32) (x2 : Int32) (S : HS) (H : Heap) (locs : List Loc) (ls : Array Slot), k16 x1 x2 S = some Z → hWd D B cy A true (hMz z) S s.heap H locs → lv_has ls 5 [(0, .ref (B + 0)), (1, .int x1), (2, .int x2)] → W p l e ({ frames := 1, cells := 0, slots := 0, locals := 23 } : Room) s m args below meth c H locs 0 0 (MQ below (hQo D B cy A true (hMz z) Z none) args s 0 0 A) (F0 m 16 ls [])) (x1 : Int32) (x2 : Int32) (S : HS) (H : Heap) (locs : List Loc) (ls : Array Slot) (hf : fn_X9_stands_58 k16 x1 x2 S = some Z) (hw : hWd D B cy A true (hMz z) S s.heap H locs) (hl : lv_has ls 5 [(0, .ref (B + 0)), (1, .int x1), (2, .int x2)]) : W p l e ({ frames := 1, cells := 0, slots := 0, locals := 23 } : Room) s m args below meth c H locs 0 0 (MQ below (hQo D B cy A true (hMz z) Z none) args s 0 0 A) (F0 m 58 ls []) := by
  unfold fn_X9_stands_58 at hf
  obtain ⟨v1, ev1, hf⟩ := bn_ok hf
  replace ev1 := Option.some.inj ev1
  refine lv_iinc (v := v1) (lv' := [(2, .int v1), (0, .ref (B + 0)), (1, .int x1)]) X.1 X.2.1 dX9_stands_58 hl (k := 2) rfl ev1 (by decide) rfl (fun ls hl => ?_)
  refine lv_goto (tgt := 16) X.1 X.2.1 dX9_stands_61 (by decide) ?_
  exact hk16 _ _ _ _ _ _ hf hw (lv_sub hl [1, 2, 0] rfl)
set_option maxHeartbeats 4000000 in
theorem w_X9_stands_16 {p : Program} {l : Launch} {e : Env} {s : State} {m : MethodId} {args : Array Value} {below : List Frame} {meth : Method} {c : Code} {D : va_G} {B : Nat} {cy : Nat → ClassId} {A : Nat → Prop} {ad av : Nat → Nat} {Z : HS} (X : hCX p s m args meth c RX9 cX9_stands 5 none D cy A ad av) {z : Nat}  : ∀ (n : Nat) (x1 : Int32) (x2 : Int32) (S : HS) (H : Heap) (locs : List Loc) (ls : Array Slot), fn_X9_stands_16 n x1 x2 S = some Z → hWd D B cy A true (hMz z) S s.heap H locs → lv_has ls 5 [(0, .ref (B + 0)), (1, .int x1), (2, .int x2)] → W p l e ({ frames := 1, cells := 0, slots := 0, locals := 23 } : Room) s m args below meth c H locs 0 0 (MQ below (hQo D B cy A true (hMz z) Z none) args s 0 0 A) (F0 m 16 ls []) := by
  intro n
  induction n with
  | zero =>
    intro x1 x2 S H locs ls hf
    cases hf
  | succ n ih =>
    intro x1 x2 S H locs ls hf hw hl
    rw [fn_X9_stands_16] at hf
    refine lv_iload_n X.1 X.2.1 dX9_stands_16 rfl (lv_at hl 2 rfl) ?_
    refine lv_bipush (v := 26) X.1 X.2.1 dX9_stands_17 (by decide) ?_
    refine lv_icmp_ge (tgt := 64) X.1 X.2.1 dX9_stands_19 (by decide) (fun hq => ?_) (fun hq => ?_)
    · replace hf := cd_tk hq hf
      refine lv_iconst (v := 0) X.1 X.2.1 dX9_stands_64 (by decide) ?_
      refine lv_istore_n (lv' := [(2, .int 0), (0, .ref (B + 0)), (1, .int x1)]) X.1 X.2.1 dX9_stands_65 rfl hl (by decide) rfl (fun ls hl => ?_)
      exact w_X9_stands_66 X  _ _ _ _ _ _ _ hf hw (lv_sub hl [1, 2, 0] rfl)
    · replace hf := cd_fk hq hf
      refine lv_aload_n X.1 X.2.1 dX9_stands_22 rfl (lv_at hl 0 rfl) ?_
      refine r_getF X hw (κ := 10) rfl inlX9 35 (by decide) rfl (by decide) tw_124 (hMk hw.2.2.2.2.2.1 0 rfl) (hMr hw.2.2.2.2.2.1 0 35 rfl) dX9_stands_23 ?_
      refine lv_iload_n X.1 X.2.1 dX9_stands_26 rfl (lv_at hl 2 rfl) ?_
      obtain ⟨g1, hf⟩ := gd_ok hf
      refine r_iald X hw (hMk hw.2.2.2.2.2.1 20 rfl) (hMn hw.2.2.2.2.2.1 20 rfl) g1 dX9_stands_27 ?_
      obtain ⟨v2, ev2, hf⟩ := bn_ok hf
      replace ev2 := Option.some.inj ev2
      refine lv_ren ev2 ?_
      refine lv_istore_n (lv' := [(3, .int v2), (0, .ref (B + 0)), (1, .int x1), (2, .int x2)]) X.1 X.2.1 dX9_stands_28 rfl hl (by decide) rfl (fun ls hl => ?_)
      refine lv_iload_n X.1 X.2.1 dX9_stands_29 rfl (lv_at hl 0 rfl) ?_
      refine lv_iconst (v := (-1)) X.1 X.2.1 dX9_stands_30 (by decide) ?_
      refine lv_icmp_eq (tgt := 58) X.1 X.2.1 dX9_stands_31 (by decide) (fun hq => ?_) (fun hq => ?_)
      · replace hf := cd_tk hq hf
        exact w_X9_stands_58 X (fn_X9_stands_16 n) ih _ _ _ _ _ _ hf hw (lv_sub hl [1, 2, 3] rfl)
      · replace hf := cd_fk hq hf
        refine lv_aload_n X.1 X.2.1 dX9_stands_34 rfl (lv_at hl 1 rfl) ?_
        refine lv_iload_n X.1 X.2.1 dX9_stands_35 rfl (lv_at hl 2 rfl) ?_
        refine lv_iload_n X.1 X.2.1 dX9_stands_36 rfl (lv_at hl 0 rfl) ?_
        obtain ⟨r4, S3, hS3, hf⟩ := bn2_ok hf
        refine r_callV (As := [.int x1, .int v2]) (rest := []) (st1 := [.int r4]) (κ := 10) X hw (c_X9_holds l D B cy A ad av x1 v2 hw.2.2.2.2.1 hw.2.2.2.2.2 hS3) ⟨rfl, rfl, Nat.le_of_ble_eq_true rfl, Nat.le_of_ble_eq_true rfl⟩ rfl (by decide) (hMk hw.2.2.2.2.2.1 0 rfl) tw_794 tw_795 tw_796 tw_5 tw_797 hd_X9_holds rfl hl.1 rfl (Nat.le_of_ble_eq_true rfl) dX9_stands_37 ⟨Nat.le_of_ble_eq_true rfl, Nat.le_of_ble_eq_true rfl⟩ rfl (fun H locs hw => ?_)
        refine lv_if_eq (tgt := 58) X.1 X.2.1 dX9_stands_40 (by decide) (fun hq => ?_) (fun hq => ?_)
        · replace hf := cd_tk hq hf
          exact w_X9_stands_58 X (fn_X9_stands_16 n) ih _ _ _ _ _ _ hf hw (lv_sub hl [1, 2, 3] rfl)
        · replace hf := cd_fk hq hf
          refine lv_aload_n X.1 X.2.1 dX9_stands_43 rfl (lv_at hl 1 rfl) ?_
          refine r_getF X hw (κ := 10) rfl inlX9 41 (by decide) rfl (by decide) tw_130 (hMk hw.2.2.2.2.2.1 0 rfl) (hMr hw.2.2.2.2.2.1 0 41 rfl) dX9_stands_44 ?_
          refine lv_iload_n X.1 X.2.1 dX9_stands_47 rfl (lv_at hl 2 rfl) ?_
          refine lv_dup2_11 X.1 X.2.1 dX9_stands_48 rfl rfl ?_
          obtain ⟨g5, hf⟩ := gd_ok hf
          refine r_iald X hw (hMk hw.2.2.2.2.2.1 26 rfl) (hMn hw.2.2.2.2.2.1 26 rfl) g5 dX9_stands_49 ?_
          refine lv_aload_n X.1 X.2.1 dX9_stands_50 rfl (lv_at hl 1 rfl) ?_
          refine r_getF X hw (κ := 10) rfl inlX9 13 (by decide) rfl (by decide) tw_113 (hMk hw.2.2.2.2.2.1 0 rfl) (hMr hw.2.2.2.2.2.1 0 13 rfl) dX9_stands_51 ?_
          refine lv_iload_n X.1 X.2.1 dX9_stands_54 rfl (lv_at hl 0 rfl) ?_
          obtain ⟨g6, hf⟩ := gd_ok hf
          refine r_iald X hw (hMk hw.2.2.2.2.2.1 10 rfl) (hMn hw.2.2.2.2.2.1 10 rfl) g6 dX9_stands_55 ?_
          refine lv_iadd X.1 X.2.1 dX9_stands_56 ?_
          obtain ⟨g7, hf⟩ := gd_ok hf
          obtain ⟨S8, eS8, hf⟩ := bn_ok hf
          replace eS8 := Option.some.inj eS8
          refine r_iast X hw (hMk hw.2.2.2.2.2.1 26 rfl) (hMn hw.2.2.2.2.2.1 26 rfl) g7 hw.2.2.2.2.2 dX9_stands_57 (fun H locs hw => ?_)
          rw [eS8] at hw
          exact w_X9_stands_58 X (fn_X9_stands_16 n) ih _ _ _ _ _ _ hf hw (lv_sub hl [1, 2, 3] rfl)
theorem hd_X9_stands : yX9_stands.cls = RX9 ∧ yX9_stands.cls ≠ "java/lang/invoke/MethodHandle" ∧ yX9_stands.cls ≠ "java/lang/invoke/VarHandle" ∧ (parseMethodDescriptor yX9_stands.desc).map (fun d => d.parameters.length) = some 1 := by decide +kernel
set_option maxHeartbeats 4000000 in
theorem c_X9_stands (l : Launch) (D : va_G) (B : Nat) (cy : Nat → ClassId) (A : Nat → Prop) (ad av : Nat → Nat) {z : Nat} (x1 : Int32) {S Z : HS} (hfr : hFr S) (hG : (hMz z) S) (hf : fn_X9_stands x1 S = some Z) : hMet l yX9_stands cX9_stands 5 none ({ frames := 1, cells := 0, slots := 0, locals := 23 } : Room) D B cy A ad av true (hMz z) [.ref (B + 0), .int x1] S Z none 0 0 := by
  refine h_entry (by decide) hfr hG ?_
  intro p e s m below meth c args X hnm hw
  have hl := lv_entry ([.ref (B + 0), .int x1]) (n := 5) (Nat.le_of_ble_eq_true rfl)
  rw [lg_entry_eq]
  generalize (lg_sl ([.ref (B + 0), .int x1]) ++ List.replicate (5 - (lg_sl ([.ref (B + 0), .int x1])).length) Slot.unset).toArray = ls at hl ⊢
  have hl : lv_has ls 5 [(0, .ref (B + 0)), (1, .int x1)] := hl
  unfold fn_X9_stands at hf
  refine lv_aload_n X.1 X.2.1 dX9_stands_0 rfl (lv_at hl 0 rfl) ?_
  refine r_getF X hw (κ := 10) rfl inlX9 41 (by decide) rfl (by decide) tw_130 (hMk hw.2.2.2.2.2.1 0 rfl) (hMr hw.2.2.2.2.2.1 0 41 rfl) dX9_stands_1 ?_
  refine lv_iload_n X.1 X.2.1 dX9_stands_4 rfl (lv_at hl 1 rfl) ?_
  refine lv_iconst (v := 0) X.1 X.2.1 dX9_stands_5 (by decide) ?_
  obtain ⟨g1, hf⟩ := gd_ok hf
  obtain ⟨S2, eS2, hf⟩ := bn_ok hf
  replace eS2 := Option.some.inj eS2
  refine r_iast X hw (hMk hw.2.2.2.2.2.1 26 rfl) (hMn hw.2.2.2.2.2.1 26 rfl) g1 hw.2.2.2.2.2 dX9_stands_6 (fun H locs hw => ?_)
  rw [eS2] at hw
  refine lv_aload_n X.1 X.2.1 dX9_stands_7 rfl (lv_at hl 0 rfl) ?_
  refine r_getF X hw (κ := 10) rfl inlX9 42 (by decide) rfl (by decide) tw_131 (hMk hw.2.2.2.2.2.1 0 rfl) (hMr hw.2.2.2.2.2.1 0 42 rfl) dX9_stands_8 ?_
  refine lv_iload_n X.1 X.2.1 dX9_stands_11 rfl (lv_at hl 1 rfl) ?_
  refine lv_iconst (v := (-1)) X.1 X.2.1 dX9_stands_12 (by decide) ?_
  obtain ⟨g3, hf⟩ := gd_ok hf
  obtain ⟨S4, eS4, hf⟩ := bn_ok hf
  replace eS4 := Option.some.inj eS4
  refine r_iast X hw (hMk hw.2.2.2.2.2.1 27 rfl) (hMn hw.2.2.2.2.2.1 27 rfl) g3 hw.2.2.2.2.2 dX9_stands_13 (fun H locs hw => ?_)
  rw [eS4] at hw
  refine lv_iconst (v := 0) X.1 X.2.1 dX9_stands_14 (by decide) ?_
  refine lv_istore_n (lv' := [(2, .int 0), (0, .ref (B + 0)), (1, .int x1)]) X.1 X.2.1 dX9_stands_15 rfl hl (by decide) rfl (fun ls hl => ?_)
  exact w_X9_stands_16 X  _ _ _ _ _ _ _ hf hw (lv_sub hl [1, 2, 0] rfl)
set_option maxHeartbeats 4000000 in
theorem w_X9_gives_83 {p : Program} {l : Launch} {e : Env} {s : State} {m : MethodId} {args : Array Value} {below : List Frame} {meth : Method} {c : Code} {D : va_G} {B : Nat} {cy : Nat → ClassId} {A : Nat → Prop} {ad av : Nat → Nat} {Z : HS} (X : hCX p s m args meth c RX9 cX9_gives 2 none D cy A ad av) {z : Nat}  (y0 : Int32) (y1 : Int32) (S : HS) (H : Heap) (locs : List Loc) (ls : Array Slot) (hf : fn_X9_gives_83 y0 y1 S = some Z) (hw : hWd D B cy A true (hMz z) S s.heap H locs) (hl : lv_has ls 2 []) : W p l e ({ frames := 0, cells := 0, slots := 0, locals := 0 } : Room) s m args below meth c H locs 0 0 (MQ below (hQo D B cy A true (hMz z) Z none) args s 0 0 A) (F0 m 83 ls [.int y0, .int y1, .ref (B + 31)]) := by
  unfold fn_X9_gives_83 at hf
  obtain ⟨g1, hf⟩ := gd_ok hf
  obtain ⟨S2, eS2, hf⟩ := bn_ok hf
  replace eS2 := Option.some.inj eS2
  refine r_iast X hw (hMk hw.2.2.2.2.2.1 31 rfl) (hMn hw.2.2.2.2.2.1 31 rfl) g1 hw.2.2.2.2.2 dX9_gives_83 (fun H locs hw => ?_)
  rw [eS2] at hw
  cases hf
  exact r_vret X hw dX9_gives_84
set_option maxHeartbeats 4000000 in
theorem w_X9_gives_54 {p : Program} {l : Launch} {e : Env} {s : State} {m : MethodId} {args : Array Value} {below : List Frame} {meth : Method} {c : Code} {D : va_G} {B : Nat} {cy : Nat → ClassId} {A : Nat → Prop} {ad av : Nat → Nat} {Z : HS} (X : hCX p s m args meth c RX9 cX9_gives 2 none D cy A ad av) {z : Nat}  (x1 : Int32) (S : HS) (H : Heap) (locs : List Loc) (ls : Array Slot) (hf : fn_X9_gives_54 x1 S = some Z) (hw : hWd D B cy A true (hMz z) S s.heap H locs) (hl : lv_has ls 2 [(0, .ref (B + 0)), (1, .int x1)]) : W p l e ({ frames := 0, cells := 0, slots := 0, locals := 0 } : Room) s m args below meth c H locs 0 0 (MQ below (hQo D B cy A true (hMz z) Z none) args s 0 0 A) (F0 m 54 ls []) := by
  unfold fn_X9_gives_54 at hf
  refine lv_aload_n X.1 X.2.1 dX9_gives_54 rfl (lv_at hl 0 rfl) ?_
  refine r_getF X hw (κ := 10) rfl inlX9 46 (by decide) rfl (by decide) tw_135 (hMk hw.2.2.2.2.2.1 0 rfl) (hMr hw.2.2.2.2.2.1 0 46 rfl) dX9_gives_55 ?_
  refine lv_iload_n X.1 X.2.1 dX9_gives_58 rfl (lv_at hl 1 rfl) ?_
  refine lv_aload_n X.1 X.2.1 dX9_gives_59 rfl (lv_at hl 0 rfl) ?_
  refine r_getF X hw (κ := 10) rfl inlX9 48 (by decide) rfl (by decide) tw_137 (hMk hw.2.2.2.2.2.1 0 rfl) (hMr hw.2.2.2.2.2.1 0 48 rfl) dX9_gives_60 ?_
  refine lv_iload_n X.1 X.2.1 dX9_gives_63 rfl (lv_at hl 1 rfl) ?_
  obtain ⟨g1, hf⟩ := gd_ok hf
  refine r_zald X hw (hMk hw.2.2.2.2.2.1 33 rfl) (hMn hw.2.2.2.2.2.1 33 rfl) g1 dX9_gives_64 ?_
  refine lv_if_eq (tgt := 77) X.1 X.2.1 dX9_gives_65 (by decide) (fun hq => ?_) (fun hq => ?_)
  · replace hf := cd_tk hq hf
    refine lv_aload_n X.1 X.2.1 dX9_gives_77 rfl (lv_at hl 0 rfl) ?_
    refine r_getF X hw (κ := 10) rfl inlX9 45 (by decide) rfl (by decide) tw_134 (hMk hw.2.2.2.2.2.1 0 rfl) (hMr hw.2.2.2.2.2.1 0 45 rfl) dX9_gives_78 ?_
    refine lv_iload_n X.1 X.2.1 dX9_gives_81 rfl (lv_at hl 1 rfl) ?_
    obtain ⟨g2, hf⟩ := gd_ok hf
    refine r_iald X hw (hMk hw.2.2.2.2.2.1 30 rfl) (hMn hw.2.2.2.2.2.1 30 rfl) g2 dX9_gives_82 ?_
    exact w_X9_gives_83 X  _ _ _ _ _ _ hf hw (lv_sub hl [] rfl)
  · replace hf := cd_fk hq hf
    refine lv_aload_n X.1 X.2.1 dX9_gives_68 rfl (lv_at hl 0 rfl) ?_
    refine r_getF X hw (κ := 10) rfl inlX9 47 (by decide) rfl (by decide) tw_136 (hMk hw.2.2.2.2.2.1 0 rfl) (hMr hw.2.2.2.2.2.1 0 47 rfl) dX9_gives_69 ?_
    refine lv_iload_n X.1 X.2.1 dX9_gives_72 rfl (lv_at hl 1 rfl) ?_
    obtain ⟨g3, hf⟩ := gd_ok hf
    refine r_iald X hw (hMk hw.2.2.2.2.2.1 32 rfl) (hMn hw.2.2.2.2.2.1 32 rfl) g3 dX9_gives_73 ?_
    refine lv_goto (tgt := 83) X.1 X.2.1 dX9_gives_74 (by decide) ?_
    exact w_X9_gives_83 X  _ _ _ _ _ _ hf hw (lv_sub hl [] rfl)
theorem hd_X9_gives : yX9_gives.cls = RX9 ∧ yX9_gives.cls ≠ "java/lang/invoke/MethodHandle" ∧ yX9_gives.cls ≠ "java/lang/invoke/VarHandle" ∧ (parseMethodDescriptor yX9_gives.desc).map (fun d => d.parameters.length) = some 1 := by decide +kernel
set_option maxHeartbeats 4000000 in
theorem c_X9_gives (l : Launch) (D : va_G) (B : Nat) (cy : Nat → ClassId) (A : Nat → Prop) (ad av : Nat → Nat) {z : Nat} (x1 : Int32) {S Z : HS} (hfr : hFr S) (hG : (hMz z) S) (hf : fn_X9_gives x1 S = some Z) : hMet l yX9_gives cX9_gives 2 none ({ frames := 0, cells := 0, slots := 0, locals := 0 } : Room) D B cy A ad av true (hMz z) [.ref (B + 0), .int x1] S Z none 0 0 := by
  refine h_entry (by decide) hfr hG ?_
  intro p e s m below meth c args X hnm hw
  have hl := lv_entry ([.ref (B + 0), .int x1]) (n := 2) (Nat.le_of_ble_eq_true rfl)
  rw [lg_entry_eq]
  generalize (lg_sl ([.ref (B + 0), .int x1]) ++ List.replicate (2 - (lg_sl ([.ref (B + 0), .int x1])).length) Slot.unset).toArray = ls at hl ⊢
  have hl : lv_has ls 2 [(0, .ref (B + 0)), (1, .int x1)] := hl
  unfold fn_X9_gives at hf
  refine lv_aload_n X.1 X.2.1 dX9_gives_0 rfl (lv_at hl 0 rfl) ?_
  refine r_getF X hw (κ := 10) rfl inlX9 38 (by decide) rfl (by decide) tw_127 (hMk hw.2.2.2.2.2.1 0 rfl) (hMr hw.2.2.2.2.2.1 0 38 rfl) dX9_gives_1 ?_
  refine lv_bipush (v := 9) X.1 X.2.1 dX9_gives_4 (by decide) ?_
  refine lv_iload_n X.1 X.2.1 dX9_gives_6 rfl (lv_at hl 1 rfl) ?_
  refine lv_imul X.1 X.2.1 dX9_gives_7 ?_
  refine lv_bipush (v := 6) X.1 X.2.1 dX9_gives_8 (by decide) ?_
  refine lv_iadd X.1 X.2.1 dX9_gives_10 ?_
  obtain ⟨g1, hf⟩ := gd_ok hf
  refine r_iald X hw (hMk hw.2.2.2.2.2.1 23 rfl) (hMn hw.2.2.2.2.2.1 23 rfl) g1 dX9_gives_11 ?_
  refine lv_if_ne (tgt := 23) X.1 X.2.1 dX9_gives_12 (by decide) (fun hq => ?_) (fun hq => ?_)
  · replace hf := cd_fk hq hf
    refine lv_aload_n X.1 X.2.1 dX9_gives_23 rfl (lv_at hl 0 rfl) ?_
    refine r_getF X hw (κ := 10) rfl inlX9 48 (by decide) rfl (by decide) tw_137 (hMk hw.2.2.2.2.2.1 0 rfl) (hMr hw.2.2.2.2.2.1 0 48 rfl) dX9_gives_24 ?_
    refine lv_iload_n X.1 X.2.1 dX9_gives_27 rfl (lv_at hl 1 rfl) ?_
    obtain ⟨g2, hf⟩ := gd_ok hf
    refine r_zald X hw (hMk hw.2.2.2.2.2.1 33 rfl) (hMn hw.2.2.2.2.2.1 33 rfl) g2 dX9_gives_28 ?_
    refine lv_if_eq (tgt := 54) X.1 X.2.1 dX9_gives_29 (by decide) (fun hq => ?_) (fun hq => ?_)
    · replace hf := cd_tk hq hf
      exact w_X9_gives_54 X  _ _ _ _ _ hf hw (lv_sub hl [0, 1] rfl)
    · replace hf := cd_fk hq hf
      refine lv_aload_n X.1 X.2.1 dX9_gives_32 rfl (lv_at hl 0 rfl) ?_
      refine r_getF X hw (κ := 10) rfl inlX9 45 (by decide) rfl (by decide) tw_134 (hMk hw.2.2.2.2.2.1 0 rfl) (hMr hw.2.2.2.2.2.1 0 45 rfl) dX9_gives_33 ?_
      refine lv_iload_n X.1 X.2.1 dX9_gives_36 rfl (lv_at hl 1 rfl) ?_
      obtain ⟨g3, hf⟩ := gd_ok hf
      refine r_iald X hw (hMk hw.2.2.2.2.2.1 30 rfl) (hMn hw.2.2.2.2.2.1 30 rfl) g3 dX9_gives_37 ?_
      refine lv_aload_n X.1 X.2.1 dX9_gives_38 rfl (lv_at hl 0 rfl) ?_
      refine r_getF X hw (κ := 10) rfl inlX9 47 (by decide) rfl (by decide) tw_136 (hMk hw.2.2.2.2.2.1 0 rfl) (hMr hw.2.2.2.2.2.1 0 47 rfl) dX9_gives_39 ?_
      refine lv_iload_n X.1 X.2.1 dX9_gives_42 rfl (lv_at hl 1 rfl) ?_
      obtain ⟨g4, hf⟩ := gd_ok hf
      refine r_iald X hw (hMk hw.2.2.2.2.2.1 32 rfl) (hMn hw.2.2.2.2.2.1 32 rfl) g4 dX9_gives_43 ?_
      refine lv_icmp_lt (tgt := 54) X.1 X.2.1 dX9_gives_44 (by decide) (fun hq => ?_) (fun hq => ?_)
      · replace hf := cd_tk hq hf
        exact w_X9_gives_54 X  _ _ _ _ _ hf hw (lv_sub hl [0, 1] rfl)
      · replace hf := cd_fk hq hf
        refine lv_aload_n X.1 X.2.1 dX9_gives_47 rfl (lv_at hl 0 rfl) ?_
        refine r_getF X hw (κ := 10) rfl inlX9 48 (by decide) rfl (by decide) tw_137 (hMk hw.2.2.2.2.2.1 0 rfl) (hMr hw.2.2.2.2.2.1 0 48 rfl) dX9_gives_48 ?_
        refine lv_iload_n X.1 X.2.1 dX9_gives_51 rfl (lv_at hl 1 rfl) ?_
        refine lv_iconst (v := 0) X.1 X.2.1 dX9_gives_52 (by decide) ?_
        obtain ⟨g5, hf⟩ := gd_ok hf
        obtain ⟨S6, eS6, hf⟩ := bn_ok hf
        replace eS6 := Option.some.inj eS6
        refine r_zast X hw (hMk hw.2.2.2.2.2.1 33 rfl) (hMn hw.2.2.2.2.2.1 33 rfl) g5 (by decide) hw.2.2.2.2.2 dX9_gives_53 (fun H locs hw => ?_)
        rw [eS6] at hw
        exact w_X9_gives_54 X  _ _ _ _ _ hf hw (lv_sub hl [0, 1] rfl)
  · replace hf := cd_tk hq hf
    refine lv_aload_n X.1 X.2.1 dX9_gives_15 rfl (lv_at hl 0 rfl) ?_
    refine r_getF X hw (κ := 10) rfl inlX9 46 (by decide) rfl (by decide) tw_135 (hMk hw.2.2.2.2.2.1 0 rfl) (hMr hw.2.2.2.2.2.1 0 46 rfl) dX9_gives_16 ?_
    refine lv_iload_n X.1 X.2.1 dX9_gives_19 rfl (lv_at hl 1 rfl) ?_
    refine lv_iconst (v := 0) X.1 X.2.1 dX9_gives_20 (by decide) ?_
    obtain ⟨g7, hf⟩ := gd_ok hf
    obtain ⟨S8, eS8, hf⟩ := bn_ok hf
    replace eS8 := Option.some.inj eS8
    refine r_iast X hw (hMk hw.2.2.2.2.2.1 31 rfl) (hMn hw.2.2.2.2.2.1 31 rfl) g7 hw.2.2.2.2.2 dX9_gives_21 (fun H locs hw => ?_)
    rw [eS8] at hw
    cases hf
    exact r_vret X hw dX9_gives_22
set_option maxHeartbeats 4000000 in
theorem w_X9_passes_150 {p : Program} {l : Launch} {e : Env} {s : State} {m : MethodId} {args : Array Value} {below : List Frame} {meth : Method} {c : Code} {D : va_G} {B : Nat} {cy : Nat → ClassId} {A : Nat → Prop} {ad av : Nat → Nat} {Z : HS} (X : hCX p s m args meth c RX9 cX9_passes 6 none D cy A ad av) {z : Nat} (k114 : Int32 → Int32 → Int32 → HS → Option HS) (hk114 : ∀ (x1 : Int32) (x2 : Int32) (x3 : Int32) (S : HS) (H : Heap) (locs : List Loc) (ls : Array Slot), k114 x1 x2 x3 S = some Z → hWd D B cy A true (hMz z) S s.heap H locs → lv_has ls 6 [(0, .ref (B + 0)), (1, .int x1), (2, .int x2), (3, .int x3)] → W p l e ({ frames := 2, cells := 0, slots := 0, locals := 47 } : Room) s m args below meth c H locs 0 0 (MQ below (hQo D B cy A true (hMz z) Z none) args s 0 0 A) (F0 m 114 ls [])) : ∀ (n : Nat) (x1 : Int32) (x2 : Int32) (x3 : Int32) (x4 : Int32) (S : HS) (H : Heap) (locs : List Loc) (ls : Array Slot), fn_X9_passes_150 k114 n x1 x2 x3 x4 S = some Z → hWd D B cy A true (hMz z) S s.heap H locs → lv_has ls 6 [(0, .ref (B + 0)), (1, .int x1), (2, .int x2), (3, .int x3), (4, .int x4)] → W p l e ({ frames := 2, cells := 0, slots := 0, locals := 47 } : Room) s m args below meth c H locs 0 0 (MQ below (hQo D B cy A true (hMz z) Z none) args s 0 0 A) (F0 m 150 ls []) := by
  intro n
  induction n with
  | zero =>
    intro x1 x2 x3 x4 S H locs ls hf
    cases hf
  | succ n ih =>
    intro x1 x2 x3 x4 S H locs ls hf hw hl
    rw [fn_X9_passes_150] at hf
    refine lv_iload X.1 X.2.1 dX9_passes_150 (lv_at hl 4 rfl) ?_
    refine lv_aload_n X.1 X.2.1 dX9_passes_152 rfl (lv_at hl 0 rfl) ?_
    refine r_getI X hw (κ := 10) rfl inlX9 28 (by decide) rfl (by decide) tw_538 (hMk hw.2.2.2.2.2.1 0 rfl) dX9_passes_153 ?_
    refine lv_icmp_ge (tgt := 236) X.1 X.2.1 dX9_passes_156 (by decide) (fun hq => ?_) (fun hq => ?_)
    · replace hf := cd_tk hq hf
      obtain ⟨v1, ev1, hf⟩ := bn_ok hf
      replace ev1 := Option.some.inj ev1
      refine lv_iinc (v := v1) (lv' := [(3, .int v1), (0, .ref (B + 0)), (1, .int x1), (2, .int x2), (4, .int x4)]) X.1 X.2.1 dX9_passes_236 hl (k := 3) rfl ev1 (by decide) rfl (fun ls hl => ?_)
      refine lv_goto (tgt := 114) X.1 X.2.1 dX9_passes_239 (by decide) ?_
      exact hk114 _ _ _ _ _ _ _ hf hw (lv_sub hl [1, 2, 3, 0] rfl)
    · replace hf := cd_fk hq hf
      refine lv_aload_n X.1 X.2.1 dX9_passes_159 rfl (lv_at hl 0 rfl) ?_
      refine lv_iload X.1 X.2.1 dX9_passes_160 (lv_at hl 4 rfl) ?_
      obtain ⟨S2, hS2, hf⟩ := bn_ok hf
      refine r_callV (As := [.int x4]) (rest := []) (st1 := []) (κ := 10) X hw (c_X9_stands l D B cy A ad av x4 hw.2.2.2.2.1 hw.2.2.2.2.2 hS2) ⟨rfl, rfl, Nat.le_of_ble_eq_true rfl, Nat.le_of_ble_eq_true rfl⟩ rfl (by decide) (hMk hw.2.2.2.2.2.1 0 rfl) tw_789 tw_790 tw_791 tw_5 tw_792 hd_X9_stands rfl hl.1 rfl (Nat.le_of_ble_eq_true rfl) dX9_passes_162 ⟨Nat.le_of_ble_eq_true rfl, Nat.le_of_ble_eq_true rfl⟩ rfl (fun H locs hw => ?_)
      refine lv_aload_n X.1 X.2.1 dX9_passes_165 rfl (lv_at hl 0 rfl) ?_
      refine lv_iload X.1 X.2.1 dX9_passes_166 (lv_at hl 4 rfl) ?_
      obtain ⟨S3, hS3, hf⟩ := bn_ok hf
      refine r_callV (As := [.int x4]) (rest := []) (st1 := []) (κ := 10) X hw (c_X9_gives l D B cy A ad av x4 hw.2.2.2.2.1 hw.2.2.2.2.2 hS3) ⟨rfl, rfl, Nat.le_of_ble_eq_true rfl, Nat.le_of_ble_eq_true rfl⟩ rfl (by decide) (hMk hw.2.2.2.2.2.1 0 rfl) tw_798 tw_799 tw_800 tw_5 tw_801 hd_X9_gives rfl hl.1 rfl (Nat.le_of_ble_eq_true rfl) dX9_passes_168 ⟨Nat.le_of_ble_eq_true rfl, Nat.le_of_ble_eq_true rfl⟩ rfl (fun H locs hw => ?_)
      refine lv_aload_n X.1 X.2.1 dX9_passes_171 rfl (lv_at hl 0 rfl) ?_
      refine r_getF X hw (κ := 10) rfl inlX9 38 (by decide) rfl (by decide) tw_127 (hMk hw.2.2.2.2.2.1 0 rfl) (hMr hw.2.2.2.2.2.1 0 38 rfl) dX9_passes_172 ?_
      refine lv_bipush (v := 9) X.1 X.2.1 dX9_passes_175 (by decide) ?_
      refine lv_iload X.1 X.2.1 dX9_passes_177 (lv_at hl 4 rfl) ?_
      refine lv_imul X.1 X.2.1 dX9_passes_179 ?_
      refine lv_bipush (v := 7) X.1 X.2.1 dX9_passes_180 (by decide) ?_
      refine lv_iadd X.1 X.2.1 dX9_passes_182 ?_
      obtain ⟨g4, hf⟩ := gd_ok hf
      refine r_iald X hw (hMk hw.2.2.2.2.2.1 23 rfl) (hMn hw.2.2.2.2.2.1 23 rfl) g4 dX9_passes_183 ?_
      obtain ⟨v5, ev5, hf⟩ := bn_ok hf
      replace ev5 := Option.some.inj ev5
      refine lv_ren ev5 ?_
      refine lv_istore (lv' := [(5, .int v5), (0, .ref (B + 0)), (1, .int x1), (2, .int x2), (3, .int x3), (4, .int x4)]) X.1 X.2.1 dX9_passes_184 hl (by decide) rfl (fun ls hl => ?_)
      refine lv_aload_n X.1 X.2.1 dX9_passes_186 rfl (lv_at hl 1 rfl) ?_
      refine r_getF X hw (κ := 10) rfl inlX9 49 (by decide) rfl (by decide) tw_138 (hMk hw.2.2.2.2.2.1 0 rfl) (hMr hw.2.2.2.2.2.1 0 49 rfl) dX9_passes_187 ?_
      refine lv_bipush (v := 40) X.1 X.2.1 dX9_passes_190 (by decide) ?_
      refine lv_iload X.1 X.2.1 dX9_passes_192 (lv_at hl 5 rfl) ?_
      refine lv_imul X.1 X.2.1 dX9_passes_194 ?_
      refine lv_iload_n X.1 X.2.1 dX9_passes_195 rfl (lv_at hl 4 rfl) ?_
      refine lv_bipush (v := 30) X.1 X.2.1 dX9_passes_196 (by decide) ?_
      refine lv_idiv X.1 X.2.1 dX9_passes_198 (by decide) ?_
      refine lv_iadd X.1 X.2.1 dX9_passes_199 ?_
      refine lv_dup2_11 X.1 X.2.1 dX9_passes_200 rfl rfl ?_
      obtain ⟨g6, hf⟩ := gd_ok hf
      refine r_lald X hw (hMk hw.2.2.2.2.2.1 34 rfl) (hMn hw.2.2.2.2.2.1 34 rfl) g6 dX9_passes_201 ?_
      refine lv_ldc2 X.1 X.2.1 X.2.2.2.1 (X.2.2.2.2.1 _ tw_768) dX9_passes_202 ?_
      refine lv_aload_n X.1 X.2.1 dX9_passes_205 rfl (lv_at hl 1 rfl) ?_
      refine r_getF X hw (κ := 10) rfl inlX9 46 (by decide) rfl (by decide) tw_135 (hMk hw.2.2.2.2.2.1 0 rfl) (hMr hw.2.2.2.2.2.1 0 46 rfl) dX9_passes_206 ?_
      refine lv_iload X.1 X.2.1 dX9_passes_209 (lv_at hl 5 rfl) ?_
      obtain ⟨g7, hf⟩ := gd_ok hf
      refine r_iald X hw (hMk hw.2.2.2.2.2.1 31 rfl) (hMn hw.2.2.2.2.2.1 31 rfl) g7 dX9_passes_211 ?_
      refine lv_i2l X.1 X.2.1 dX9_passes_212 rfl ?_
      refine lv_lmul X.1 X.2.1 dX9_passes_213 ?_
      refine lv_iload X.1 X.2.1 dX9_passes_214 (lv_at hl 0 rfl) ?_
      refine lv_bipush (v := 10) X.1 X.2.1 dX9_passes_216 (by decide) ?_
      refine lv_idiv X.1 X.2.1 dX9_passes_218 (by decide) ?_
      refine lv_i2l X.1 X.2.1 dX9_passes_219 rfl ?_
      refine lv_lmul X.1 X.2.1 dX9_passes_220 ?_
      refine lv_iload X.1 X.2.1 dX9_passes_221 (lv_at hl 0 rfl) ?_
      refine lv_bipush (v := 10) X.1 X.2.1 dX9_passes_223 (by decide) ?_
      refine lv_irem X.1 X.2.1 dX9_passes_225 (by decide) ?_
      refine lv_i2l X.1 X.2.1 dX9_passes_226 rfl ?_
      obtain ⟨hq, hf⟩ := gd_ok hf
      refine lv_ldiv X.1 X.2.1 dX9_passes_227 hq ?_
      refine lv_ladd X.1 X.2.1 dX9_passes_228 ?_
      obtain ⟨g8, hf⟩ := gd_ok hf
      obtain ⟨S9, eS9, hf⟩ := bn_ok hf
      replace eS9 := Option.some.inj eS9
      refine r_last X hw (hMk hw.2.2.2.2.2.1 34 rfl) (hMn hw.2.2.2.2.2.1 34 rfl) g8 hw.2.2.2.2.2 dX9_passes_229 (fun H locs hw => ?_)
      rw [eS9] at hw
      obtain ⟨v10, ev10, hf⟩ := bn_ok hf
      replace ev10 := Option.some.inj ev10
      refine lv_iinc (v := v10) (lv' := [(4, .int v10), (5, .int v5), (0, .ref (B + 0)), (1, .int x1), (2, .int x2), (3, .int x3)]) X.1 X.2.1 dX9_passes_230 hl (k := 5) rfl ev10 (by decide) rfl (fun ls hl => ?_)
      refine lv_goto (tgt := 150) X.1 X.2.1 dX9_passes_233 (by decide) ?_
      exact ih _ _ _ _ _ _ _ _ hf hw (lv_sub hl [2, 3, 4, 5, 0] rfl)
set_option maxHeartbeats 4000000 in
theorem w_X9_passes_141 {p : Program} {l : Launch} {e : Env} {s : State} {m : MethodId} {args : Array Value} {below : List Frame} {meth : Method} {c : Code} {D : va_G} {B : Nat} {cy : Nat → ClassId} {A : Nat → Prop} {ad av : Nat → Nat} {Z : HS} (X : hCX p s m args meth c RX9 cX9_passes 6 none D cy A ad av) {z : Nat} (k114 : Int32 → Int32 → Int32 → HS → Option HS) (hk114 : ∀ (x1 : Int32) (x2 : Int32) (x3 : Int32) (S : HS) (H : Heap) (locs : List Loc) (ls : Array Slot), k114 x1 x2 x3 S = some Z → hWd D B cy A true (hMz z) S s.heap H locs → lv_has ls 6 [(0, .ref (B + 0)), (1, .int x1), (2, .int x2), (3, .int x3)] → W p l e ({ frames := 2, cells := 0, slots := 0, locals := 47 } : Room) s m args below meth c H locs 0 0 (MQ below (hQo D B cy A true (hMz z) Z none) args s 0 0 A) (F0 m 114 ls [])) (x1 : Int32) (x2 : Int32) (x3 : Int32) (S : HS) (H : Heap) (locs : List Loc) (ls : Array Slot) (hf : fn_X9_passes_141 k114 x1 x2 x3 S = some Z) (hw : hWd D B cy A true (hMz z) S s.heap H locs) (hl : lv_has ls 6 [(0, .ref (B + 0)), (1, .int x1), (2, .int x2), (3, .int x3)]) : W p l e ({ frames := 2, cells := 0, slots := 0, locals := 47 } : Room) s m args below meth c H locs 0 0 (MQ below (hQo D B cy A true (hMz z) Z none) args s 0 0 A) (F0 m 141 ls []) := by
  unfold fn_X9_passes_141 at hf
  refine lv_aload_n X.1 X.2.1 dX9_passes_141 rfl (lv_at hl 0 rfl) ?_
  refine lv_iload_n X.1 X.2.1 dX9_passes_142 rfl (lv_at hl 3 rfl) ?_
  refine lv_iload_n X.1 X.2.1 dX9_passes_143 rfl (lv_at hl 1 rfl) ?_
  obtain ⟨S1, hS1, hf⟩ := bn_ok hf
  refine r_callV (As := [.int x3, .int x1]) (rest := []) (st1 := []) (κ := 10) X hw (c_X9_notesOf l D B cy A ad av x3 x1 hw.2.2.2.2.1 hw.2.2.2.2.2 hS1) ⟨rfl, rfl, Nat.le_of_ble_eq_true rfl, Nat.le_of_ble_eq_true rfl⟩ rfl (by decide) (hMk hw.2.2.2.2.2.1 0 rfl) tw_785 tw_786 tw_787 tw_5 tw_788 hd_X9_notesOf rfl hl.1 rfl (Nat.le_of_ble_eq_true rfl) dX9_passes_144 ⟨Nat.le_of_ble_eq_true rfl, Nat.le_of_ble_eq_true rfl⟩ rfl (fun H locs hw => ?_)
  refine lv_iconst (v := 0) X.1 X.2.1 dX9_passes_147 (by decide) ?_
  refine lv_istore (lv' := [(4, .int 0), (0, .ref (B + 0)), (1, .int x1), (2, .int x2), (3, .int x3)]) X.1 X.2.1 dX9_passes_148 hl (by decide) rfl (fun ls hl => ?_)
  exact w_X9_passes_150 X k114 hk114 _ _ _ _ _ _ _ _ _ hf hw (lv_sub hl [1, 2, 3, 4, 0] rfl)
set_option maxHeartbeats 4000000 in
theorem w_X9_passes_127 {p : Program} {l : Launch} {e : Env} {s : State} {m : MethodId} {args : Array Value} {below : List Frame} {meth : Method} {c : Code} {D : va_G} {B : Nat} {cy : Nat → ClassId} {A : Nat → Prop} {ad av : Nat → Nat} {Z : HS} (X : hCX p s m args meth c RX9 cX9_passes 6 none D cy A ad av) {z : Nat} (k114 : Int32 → Int32 → Int32 → HS → Option HS) (hk114 : ∀ (x1 : Int32) (x2 : Int32) (x3 : Int32) (S : HS) (H : Heap) (locs : List Loc) (ls : Array Slot), k114 x1 x2 x3 S = some Z → hWd D B cy A true (hMz z) S s.heap H locs → lv_has ls 6 [(0, .ref (B + 0)), (1, .int x1), (2, .int x2), (3, .int x3)] → W p l e ({ frames := 2, cells := 0, slots := 0, locals := 47 } : Room) s m args below meth c H locs 0 0 (MQ below (hQo D B cy A true (hMz z) Z none) args s 0 0 A) (F0 m 114 ls [])) (x1 : Int32) (x2 : Int32) (x3 : Int32) (S : HS) (H : Heap) (locs : List Loc) (ls : Array Slot) (hf : fn_X9_passes_127 k114 x1 x2 x3 S = some Z) (hw : hWd D B cy A true (hMz z) S s.heap H locs) (hl : lv_has ls 6 [(0, .ref (B + 0)), (1, .int x1), (2, .int x2), (3, .int x3)]) : W p l e ({ frames := 2, cells := 0, slots := 0, locals := 47 } : Room) s m args below meth c H locs 0 0 (MQ below (hQo D B cy A true (hMz z) Z none) args s 0 0 A) (F0 m 127 ls []) := by
  unfold fn_X9_passes_127 at hf
  refine lv_aload_n X.1 X.2.1 dX9_passes_127 rfl (lv_at hl 0 rfl) ?_
  refine lv_iload_n X.1 X.2.1 dX9_passes_128 rfl (lv_at hl 3 rfl) ?_
  obtain ⟨r2, S1, hS1, hf⟩ := bn2_ok hf
  refine r_callV (As := [.int x3]) (rest := []) (st1 := [.int r2]) (κ := 10) X hw (c_X9_isBeginning l D B cy A ad av x3 hw.2.2.2.2.1 hw.2.2.2.2.2 hS1) ⟨rfl, rfl, Nat.le_of_ble_eq_true rfl, Nat.le_of_ble_eq_true rfl⟩ rfl (by decide) (hMk hw.2.2.2.2.2.1 0 rfl) tw_777 tw_778 tw_779 tw_5 tw_780 hd_X9_isBeginning rfl hl.1 rfl (Nat.le_of_ble_eq_true rfl) dX9_passes_129 ⟨Nat.le_of_ble_eq_true rfl, Nat.le_of_ble_eq_true rfl⟩ rfl (fun H locs hw => ?_)
  refine lv_if_eq (tgt := 141) X.1 X.2.1 dX9_passes_132 (by decide) (fun hq => ?_) (fun hq => ?_)
  · replace hf := cd_tk hq hf
    exact w_X9_passes_141 X k114 hk114 _ _ _ _ _ _ _ hf hw (lv_sub hl [0, 1, 2, 3] rfl)
  · replace hf := cd_fk hq hf
    refine lv_aload_n X.1 X.2.1 dX9_passes_135 rfl (lv_at hl 0 rfl) ?_
    refine lv_iload_n X.1 X.2.1 dX9_passes_136 rfl (lv_at hl 3 rfl) ?_
    refine lv_iload_n X.1 X.2.1 dX9_passes_137 rfl (lv_at hl 1 rfl) ?_
    obtain ⟨S3, hS3, hf⟩ := bn_ok hf
    refine r_callV (As := [.int x3, .int x1]) (rest := []) (st1 := []) (κ := 10) X hw (c_X9_lawsOf l D B cy A ad av x3 x1 hw.2.2.2.2.1 hw.2.2.2.2.2 hS3) ⟨rfl, rfl, Nat.le_of_ble_eq_true rfl, Nat.le_of_ble_eq_true rfl⟩ rfl (by decide) (hMk hw.2.2.2.2.2.1 0 rfl) tw_781 tw_782 tw_783 tw_5 tw_784 hd_X9_lawsOf rfl hl.1 rfl (Nat.le_of_ble_eq_true rfl) dX9_passes_138 ⟨Nat.le_of_ble_eq_true rfl, Nat.le_of_ble_eq_true rfl⟩ rfl (fun H locs hw => ?_)
    exact w_X9_passes_141 X k114 hk114 _ _ _ _ _ _ _ hf hw (lv_sub hl [0, 1, 2, 3] rfl)
set_option maxHeartbeats 4000000 in
theorem w_X9_passes_114 {p : Program} {l : Launch} {e : Env} {s : State} {m : MethodId} {args : Array Value} {below : List Frame} {meth : Method} {c : Code} {D : va_G} {B : Nat} {cy : Nat → ClassId} {A : Nat → Prop} {ad av : Nat → Nat} {Z : HS} (X : hCX p s m args meth c RX9 cX9_passes 6 none D cy A ad av) {z : Nat}  : ∀ (n : Nat) (x1 : Int32) (x2 : Int32) (x3 : Int32) (S : HS) (H : Heap) (locs : List Loc) (ls : Array Slot), fn_X9_passes_114 n x1 x2 x3 S = some Z → hWd D B cy A true (hMz z) S s.heap H locs → lv_has ls 6 [(0, .ref (B + 0)), (1, .int x1), (2, .int x2), (3, .int x3)] → W p l e ({ frames := 2, cells := 0, slots := 0, locals := 47 } : Room) s m args below meth c H locs 0 0 (MQ below (hQo D B cy A true (hMz z) Z none) args s 0 0 A) (F0 m 114 ls []) := by
  intro n
  induction n with
  | zero =>
    intro x1 x2 x3 S H locs ls hf
    cases hf
  | succ n ih =>
    intro x1 x2 x3 S H locs ls hf hw hl
    rw [fn_X9_passes_114] at hf
    refine lv_iload_n X.1 X.2.1 dX9_passes_114 rfl (lv_at hl 3 rfl) ?_
    refine lv_iload_n X.1 X.2.1 dX9_passes_115 rfl (lv_at hl 2 rfl) ?_
    refine lv_icmp_gt (tgt := 242) X.1 X.2.1 dX9_passes_116 (by decide) (fun hq => ?_) (fun hq => ?_)
    · replace hf := cd_tk hq hf
      cases hf
      exact r_vret X hw dX9_passes_242
    · replace hf := cd_fk hq hf
      refine lv_iload_n X.1 X.2.1 dX9_passes_119 rfl (lv_at hl 3 rfl) ?_
      refine lv_if_le (tgt := 127) X.1 X.2.1 dX9_passes_120 (by decide) (fun hq => ?_) (fun hq => ?_)
      · replace hf := cd_tk hq hf
        exact w_X9_passes_127 X (fn_X9_passes_114 n) ih _ _ _ _ _ _ _ hf hw (lv_sub hl [0, 1, 2, 3] rfl)
      · replace hf := cd_fk hq hf
        refine lv_aload_n X.1 X.2.1 dX9_passes_123 rfl (lv_at hl 0 rfl) ?_
        obtain ⟨S1, hS1, hf⟩ := bn_ok hf
        refine r_callV (As := []) (rest := []) (st1 := []) (κ := 10) X hw (c_X9_serves l D B cy A ad av  hw.2.2.2.2.1 hw.2.2.2.2.2 hS1) ⟨rfl, rfl, Nat.le_of_ble_eq_true rfl, Nat.le_of_ble_eq_true rfl⟩ rfl (by decide) (hMk hw.2.2.2.2.2.1 0 rfl) tw_769 tw_770 tw_771 tw_5 tw_772 hd_X9_serves rfl hl.1 rfl (Nat.le_of_ble_eq_true rfl) dX9_passes_124 ⟨Nat.le_of_ble_eq_true rfl, Nat.le_of_ble_eq_true rfl⟩ rfl (fun H locs hw => ?_)
        exact w_X9_passes_127 X (fn_X9_passes_114 n) ih _ _ _ _ _ _ _ hf hw (lv_sub hl [0, 1, 2, 3] rfl)
set_option maxHeartbeats 4000000 in
theorem w_X9_passes_92 {p : Program} {l : Launch} {e : Env} {s : State} {m : MethodId} {args : Array Value} {below : List Frame} {meth : Method} {c : Code} {D : va_G} {B : Nat} {cy : Nat → ClassId} {A : Nat → Prop} {ad av : Nat → Nat} {Z : HS} (X : hCX p s m args meth c RX9 cX9_passes 6 none D cy A ad av) {z : Nat}  : ∀ (n : Nat) (x1 : Int32) (x2 : Int32) (x3 : Int32) (S : HS) (H : Heap) (locs : List Loc) (ls : Array Slot), fn_X9_passes_92 n x1 x2 x3 S = some Z → hWd D B cy A true (hMz z) S s.heap H locs → lv_has ls 6 [(0, .ref (B + 0)), (1, .int x1), (2, .int x2), (3, .int x3)] → W p l e ({ frames := 2, cells := 0, slots := 0, locals := 47 } : Room) s m args below meth c H locs 0 0 (MQ below (hQo D B cy A true (hMz z) Z none) args s 0 0 A) (F0 m 92 ls []) := by
  intro n
  induction n with
  | zero =>
    intro x1 x2 x3 S H locs ls hf
    cases hf
  | succ n ih =>
    intro x1 x2 x3 S H locs ls hf hw hl
    rw [fn_X9_passes_92] at hf
    refine lv_iload_n X.1 X.2.1 dX9_passes_92 rfl (lv_at hl 3 rfl) ?_
    refine lv_sipush (v := 320) X.1 X.2.1 dX9_passes_93 (by decide) ?_
    refine lv_icmp_ge (tgt := 112) X.1 X.2.1 dX9_passes_96 (by decide) (fun hq => ?_) (fun hq => ?_)
    · replace hf := cd_tk hq hf
      refine lv_iconst (v := 0) X.1 X.2.1 dX9_passes_112 (by decide) ?_
      refine lv_istore_n (lv' := [(3, .int 0), (0, .ref (B + 0)), (1, .int x1), (2, .int x2)]) X.1 X.2.1 dX9_passes_113 rfl hl (by decide) rfl (fun ls hl => ?_)
      exact w_X9_passes_114 X  _ _ _ _ _ _ _ _ hf hw (lv_sub hl [1, 2, 3, 0] rfl)
    · replace hf := cd_fk hq hf
      refine lv_aload_n X.1 X.2.1 dX9_passes_99 rfl (lv_at hl 0 rfl) ?_
      refine r_getF X hw (κ := 10) rfl inlX9 49 (by decide) rfl (by decide) tw_138 (hMk hw.2.2.2.2.2.1 0 rfl) (hMr hw.2.2.2.2.2.1 0 49 rfl) dX9_passes_100 ?_
      refine lv_iload_n X.1 X.2.1 dX9_passes_103 rfl (lv_at hl 3 rfl) ?_
      refine lv_lconst (v := 0) X.1 X.2.1 dX9_passes_104 (by decide) ?_
      obtain ⟨g1, hf⟩ := gd_ok hf
      obtain ⟨S2, eS2, hf⟩ := bn_ok hf
      replace eS2 := Option.some.inj eS2
      refine r_last X hw (hMk hw.2.2.2.2.2.1 34 rfl) (hMn hw.2.2.2.2.2.1 34 rfl) g1 hw.2.2.2.2.2 dX9_passes_105 (fun H locs hw => ?_)
      rw [eS2] at hw
      obtain ⟨v3, ev3, hf⟩ := bn_ok hf
      replace ev3 := Option.some.inj ev3
      refine lv_iinc (v := v3) (lv' := [(3, .int v3), (0, .ref (B + 0)), (1, .int x1), (2, .int x2)]) X.1 X.2.1 dX9_passes_106 hl (k := 3) rfl ev3 (by decide) rfl (fun ls hl => ?_)
      refine lv_goto (tgt := 92) X.1 X.2.1 dX9_passes_109 (by decide) ?_
      exact ih _ _ _ _ _ _ _ hf hw (lv_sub hl [1, 2, 3, 0] rfl)
set_option maxHeartbeats 4000000 in
theorem w_X9_passes_42 {p : Program} {l : Launch} {e : Env} {s : State} {m : MethodId} {args : Array Value} {below : List Frame} {meth : Method} {c : Code} {D : va_G} {B : Nat} {cy : Nat → ClassId} {A : Nat → Prop} {ad av : Nat → Nat} {Z : HS} (X : hCX p s m args meth c RX9 cX9_passes 6 none D cy A ad av) {z : Nat} (k2 : Int32 → Int32 → Int32 → HS → Option HS) (hk2 : ∀ (x1 : Int32) (x2 : Int32) (x3 : Int32) (S : HS) (H : Heap) (locs : List Loc) (ls : Array Slot), k2 x1 x2 x3 S = some Z → hWd D B cy A true (hMz z) S s.heap H locs → lv_has ls 6 [(0, .ref (B + 0)), (1, .int x1), (2, .int x2), (3, .int x3)] → W p l e ({ frames := 2, cells := 0, slots := 0, locals := 47 } : Room) s m args below meth c H locs 0 0 (MQ below (hQo D B cy A true (hMz z) Z none) args s 0 0 A) (F0 m 2 ls [])) (k11 : Int32 → Int32 → Int32 → Int32 → HS → Option HS) (hk11 : ∀ (x1 : Int32) (x2 : Int32) (x3 : Int32) (x4 : Int32) (S : HS) (H : Heap) (locs : List Loc) (ls : Array Slot), k11 x1 x2 x3 x4 S = some Z → hWd D B cy A true (hMz z) S s.heap H locs → lv_has ls 6 [(0, .ref (B + 0)), (1, .int x1), (2, .int x2), (3, .int x3), (4, .int x4)] → W p l e ({ frames := 2, cells := 0, slots := 0, locals := 47 } : Room) s m args below meth c H locs 0 0 (MQ below (hQo D B cy A true (hMz z) Z none) args s 0 0 A) (F0 m 11 ls [])) (x1 : Int32) (x2 : Int32) (x3 : Int32) (x4 : Int32) (y0 : Int32) (y1 : Int32) (S : HS) (H : Heap) (locs : List Loc) (ls : Array Slot) (hf : fn_X9_passes_42 k2 k11 x1 x2 x3 x4 y0 y1 S = some Z) (hw : hWd D B cy A true (hMz z) S s.heap H locs) (hl : lv_has ls 6 [(0, .ref (B + 0)), (1, .int x1), (2, .int x2), (3, .int x3), (4, .int x4)]) : W p l e ({ frames := 2, cells := 0, slots := 0, locals := 47 } : Room) s m args below meth c H locs 0 0 (MQ below (hQo D B cy A true (hMz z) Z none) args s 0 0 A) (F0 m 42 ls [.int y0, .int y1, .ref (B + 23)]) := by
  unfold fn_X9_passes_42 at hf
  obtain ⟨g1, hf⟩ := gd_ok hf
  obtain ⟨S2, eS2, hf⟩ := bn_ok hf
  replace eS2 := Option.some.inj eS2
  refine r_iast X hw (hMk hw.2.2.2.2.2.1 23 rfl) (hMn hw.2.2.2.2.2.1 23 rfl) g1 hw.2.2.2.2.2 dX9_passes_42 (fun H locs hw => ?_)
  rw [eS2] at hw
  obtain ⟨v3, ev3, hf⟩ := bn_ok hf
  replace ev3 := Option.some.inj ev3
  refine lv_iinc (v := v3) (lv' := [(4, .int v3), (0, .ref (B + 0)), (1, .int x1), (2, .int x2), (3, .int x3)]) X.1 X.2.1 dX9_passes_43 hl (k := 4) rfl ev3 (by decide) rfl (fun ls hl => ?_)
  refine lv_goto (tgt := 11) X.1 X.2.1 dX9_passes_46 (by decide) ?_
  exact hk11 _ _ _ _ _ _ _ _ hf hw (lv_sub hl [1, 2, 3, 4, 0] rfl)
set_option maxHeartbeats 4000000 in
theorem w_X9_passes_11 {p : Program} {l : Launch} {e : Env} {s : State} {m : MethodId} {args : Array Value} {below : List Frame} {meth : Method} {c : Code} {D : va_G} {B : Nat} {cy : Nat → ClassId} {A : Nat → Prop} {ad av : Nat → Nat} {Z : HS} (X : hCX p s m args meth c RX9 cX9_passes 6 none D cy A ad av) {z : Nat} (k2 : Int32 → Int32 → Int32 → HS → Option HS) (hk2 : ∀ (x1 : Int32) (x2 : Int32) (x3 : Int32) (S : HS) (H : Heap) (locs : List Loc) (ls : Array Slot), k2 x1 x2 x3 S = some Z → hWd D B cy A true (hMz z) S s.heap H locs → lv_has ls 6 [(0, .ref (B + 0)), (1, .int x1), (2, .int x2), (3, .int x3)] → W p l e ({ frames := 2, cells := 0, slots := 0, locals := 47 } : Room) s m args below meth c H locs 0 0 (MQ below (hQo D B cy A true (hMz z) Z none) args s 0 0 A) (F0 m 2 ls [])) : ∀ (n : Nat) (x1 : Int32) (x2 : Int32) (x3 : Int32) (x4 : Int32) (S : HS) (H : Heap) (locs : List Loc) (ls : Array Slot), fn_X9_passes_11 k2 n x1 x2 x3 x4 S = some Z → hWd D B cy A true (hMz z) S s.heap H locs → lv_has ls 6 [(0, .ref (B + 0)), (1, .int x1), (2, .int x2), (3, .int x3), (4, .int x4)] → W p l e ({ frames := 2, cells := 0, slots := 0, locals := 47 } : Room) s m args below meth c H locs 0 0 (MQ below (hQo D B cy A true (hMz z) Z none) args s 0 0 A) (F0 m 11 ls []) := by
  intro n
  induction n with
  | zero =>
    intro x1 x2 x3 x4 S H locs ls hf
    cases hf
  | succ n ih =>
    intro x1 x2 x3 x4 S H locs ls hf hw hl
    rw [fn_X9_passes_11] at hf
    refine lv_iload X.1 X.2.1 dX9_passes_11 (lv_at hl 4 rfl) ?_
    refine lv_bipush (v := 9) X.1 X.2.1 dX9_passes_13 (by decide) ?_
    refine lv_icmp_ge (tgt := 49) X.1 X.2.1 dX9_passes_15 (by decide) (fun hq => ?_) (fun hq => ?_)
    · replace hf := cd_tk hq hf
      refine lv_aload_n X.1 X.2.1 dX9_passes_49 rfl (lv_at hl 0 rfl) ?_
      refine r_getF X hw (κ := 10) rfl inlX9 39 (by decide) rfl (by decide) tw_128 (hMk hw.2.2.2.2.2.1 0 rfl) (hMr hw.2.2.2.2.2.1 0 39 rfl) dX9_passes_50 ?_
      refine lv_iload_n X.1 X.2.1 dX9_passes_53 rfl (lv_at hl 3 rfl) ?_
      refine lv_iconst (v := 0) X.1 X.2.1 dX9_passes_54 (by decide) ?_
      obtain ⟨g1, hf⟩ := gd_ok hf
      obtain ⟨S2, eS2, hf⟩ := bn_ok hf
      replace eS2 := Option.some.inj eS2
      refine r_iast X hw (hMk hw.2.2.2.2.2.1 24 rfl) (hMn hw.2.2.2.2.2.1 24 rfl) g1 hw.2.2.2.2.2 dX9_passes_55 (fun H locs hw => ?_)
      rw [eS2] at hw
      refine lv_aload_n X.1 X.2.1 dX9_passes_56 rfl (lv_at hl 0 rfl) ?_
      refine r_getF X hw (κ := 10) rfl inlX9 40 (by decide) rfl (by decide) tw_129 (hMk hw.2.2.2.2.2.1 0 rfl) (hMr hw.2.2.2.2.2.1 0 40 rfl) dX9_passes_57 ?_
      refine lv_iload_n X.1 X.2.1 dX9_passes_60 rfl (lv_at hl 3 rfl) ?_
      refine lv_iconst (v := 0) X.1 X.2.1 dX9_passes_61 (by decide) ?_
      obtain ⟨g3, hf⟩ := gd_ok hf
      obtain ⟨S4, eS4, hf⟩ := bn_ok hf
      replace eS4 := Option.some.inj eS4
      refine r_iast X hw (hMk hw.2.2.2.2.2.1 25 rfl) (hMn hw.2.2.2.2.2.1 25 rfl) g3 hw.2.2.2.2.2 dX9_passes_62 (fun H locs hw => ?_)
      rw [eS4] at hw
      refine lv_aload_n X.1 X.2.1 dX9_passes_63 rfl (lv_at hl 0 rfl) ?_
      refine r_getF X hw (κ := 10) rfl inlX9 46 (by decide) rfl (by decide) tw_135 (hMk hw.2.2.2.2.2.1 0 rfl) (hMr hw.2.2.2.2.2.1 0 46 rfl) dX9_passes_64 ?_
      refine lv_iload_n X.1 X.2.1 dX9_passes_67 rfl (lv_at hl 3 rfl) ?_
      refine lv_iconst (v := 0) X.1 X.2.1 dX9_passes_68 (by decide) ?_
      obtain ⟨g5, hf⟩ := gd_ok hf
      obtain ⟨S6, eS6, hf⟩ := bn_ok hf
      replace eS6 := Option.some.inj eS6
      refine r_iast X hw (hMk hw.2.2.2.2.2.1 31 rfl) (hMn hw.2.2.2.2.2.1 31 rfl) g5 hw.2.2.2.2.2 dX9_passes_69 (fun H locs hw => ?_)
      rw [eS6] at hw
      refine lv_aload_n X.1 X.2.1 dX9_passes_70 rfl (lv_at hl 0 rfl) ?_
      refine r_getF X hw (κ := 10) rfl inlX9 47 (by decide) rfl (by decide) tw_136 (hMk hw.2.2.2.2.2.1 0 rfl) (hMr hw.2.2.2.2.2.1 0 47 rfl) dX9_passes_71 ?_
      refine lv_iload_n X.1 X.2.1 dX9_passes_74 rfl (lv_at hl 3 rfl) ?_
      refine lv_iconst (v := 0) X.1 X.2.1 dX9_passes_75 (by decide) ?_
      obtain ⟨g7, hf⟩ := gd_ok hf
      obtain ⟨S8, eS8, hf⟩ := bn_ok hf
      replace eS8 := Option.some.inj eS8
      refine r_iast X hw (hMk hw.2.2.2.2.2.1 32 rfl) (hMn hw.2.2.2.2.2.1 32 rfl) g7 hw.2.2.2.2.2 dX9_passes_76 (fun H locs hw => ?_)
      rw [eS8] at hw
      refine lv_aload_n X.1 X.2.1 dX9_passes_77 rfl (lv_at hl 0 rfl) ?_
      refine r_getF X hw (κ := 10) rfl inlX9 48 (by decide) rfl (by decide) tw_137 (hMk hw.2.2.2.2.2.1 0 rfl) (hMr hw.2.2.2.2.2.1 0 48 rfl) dX9_passes_78 ?_
      refine lv_iload_n X.1 X.2.1 dX9_passes_81 rfl (lv_at hl 3 rfl) ?_
      refine lv_iconst (v := 0) X.1 X.2.1 dX9_passes_82 (by decide) ?_
      obtain ⟨g9, hf⟩ := gd_ok hf
      obtain ⟨S10, eS10, hf⟩ := bn_ok hf
      replace eS10 := Option.some.inj eS10
      refine r_zast X hw (hMk hw.2.2.2.2.2.1 33 rfl) (hMn hw.2.2.2.2.2.1 33 rfl) g9 (by decide) hw.2.2.2.2.2 dX9_passes_83 (fun H locs hw => ?_)
      rw [eS10] at hw
      obtain ⟨v11, ev11, hf⟩ := bn_ok hf
      replace ev11 := Option.some.inj ev11
      refine lv_iinc (v := v11) (lv' := [(3, .int v11), (0, .ref (B + 0)), (1, .int x1), (2, .int x2), (4, .int x4)]) X.1 X.2.1 dX9_passes_84 hl (k := 3) rfl ev11 (by decide) rfl (fun ls hl => ?_)
      refine lv_goto (tgt := 2) X.1 X.2.1 dX9_passes_87 (by decide) ?_
      exact hk2 _ _ _ _ _ _ _ hf hw (lv_sub hl [1, 2, 3, 0] rfl)
    · replace hf := cd_fk hq hf
      refine lv_aload_n X.1 X.2.1 dX9_passes_18 rfl (lv_at hl 0 rfl) ?_
      refine r_getF X hw (κ := 10) rfl inlX9 38 (by decide) rfl (by decide) tw_127 (hMk hw.2.2.2.2.2.1 0 rfl) (hMr hw.2.2.2.2.2.1 0 38 rfl) dX9_passes_19 ?_
      refine lv_bipush (v := 9) X.1 X.2.1 dX9_passes_22 (by decide) ?_
      refine lv_iload_n X.1 X.2.1 dX9_passes_24 rfl (lv_at hl 3 rfl) ?_
      refine lv_imul X.1 X.2.1 dX9_passes_25 ?_
      refine lv_iload X.1 X.2.1 dX9_passes_26 (lv_at hl 4 rfl) ?_
      refine lv_iadd X.1 X.2.1 dX9_passes_28 ?_
      refine lv_iload X.1 X.2.1 dX9_passes_29 (lv_at hl 4 rfl) ?_
      refine lv_bipush (v := 7) X.1 X.2.1 dX9_passes_31 (by decide) ?_
      refine lv_icmp_ne (tgt := 41) X.1 X.2.1 dX9_passes_33 (by decide) (fun hq => ?_) (fun hq => ?_)
      · replace hf := cd_fk hq hf
        refine lv_iconst (v := 0) X.1 X.2.1 dX9_passes_41 (by decide) ?_
        exact w_X9_passes_42 X k2 hk2 (fn_X9_passes_11 k2 n) ih _ _ _ _ _ _ _ _ _ _ hf hw (lv_sub hl [0, 1, 2, 3, 4] rfl)
      · replace hf := cd_tk hq hf
        refine lv_bipush (v := 11) X.1 X.2.1 dX9_passes_36 (by decide) ?_
        refine lv_goto (tgt := 42) X.1 X.2.1 dX9_passes_38 (by decide) ?_
        exact w_X9_passes_42 X k2 hk2 (fn_X9_passes_11 k2 n) ih _ _ _ _ _ _ _ _ _ _ hf hw (lv_sub hl [0, 1, 2, 3, 4] rfl)
set_option maxHeartbeats 4000000 in
theorem w_X9_passes_2 {p : Program} {l : Launch} {e : Env} {s : State} {m : MethodId} {args : Array Value} {below : List Frame} {meth : Method} {c : Code} {D : va_G} {B : Nat} {cy : Nat → ClassId} {A : Nat → Prop} {ad av : Nat → Nat} {Z : HS} (X : hCX p s m args meth c RX9 cX9_passes 6 none D cy A ad av) {z : Nat}  : ∀ (n : Nat) (x1 : Int32) (x2 : Int32) (x3 : Int32) (S : HS) (H : Heap) (locs : List Loc) (ls : Array Slot), fn_X9_passes_2 n x1 x2 x3 S = some Z → hWd D B cy A true (hMz z) S s.heap H locs → lv_has ls 6 [(0, .ref (B + 0)), (1, .int x1), (2, .int x2), (3, .int x3)] → W p l e ({ frames := 2, cells := 0, slots := 0, locals := 47 } : Room) s m args below meth c H locs 0 0 (MQ below (hQo D B cy A true (hMz z) Z none) args s 0 0 A) (F0 m 2 ls []) := by
  intro n
  induction n with
  | zero =>
    intro x1 x2 x3 S H locs ls hf
    cases hf
  | succ n ih =>
    intro x1 x2 x3 S H locs ls hf hw hl
    rw [fn_X9_passes_2] at hf
    refine lv_iload_n X.1 X.2.1 dX9_passes_2 rfl (lv_at hl 3 rfl) ?_
    refine lv_bipush (v := 8) X.1 X.2.1 dX9_passes_3 (by decide) ?_
    refine lv_icmp_ge (tgt := 90) X.1 X.2.1 dX9_passes_5 (by decide) (fun hq => ?_) (fun hq => ?_)
    · replace hf := cd_tk hq hf
      refine lv_iconst (v := 0) X.1 X.2.1 dX9_passes_90 (by decide) ?_
      refine lv_istore_n (lv' := [(3, .int 0), (0, .ref (B + 0)), (1, .int x1), (2, .int x2)]) X.1 X.2.1 dX9_passes_91 rfl hl (by decide) rfl (fun ls hl => ?_)
      exact w_X9_passes_92 X  _ _ _ _ _ _ _ _ hf hw (lv_sub hl [1, 2, 3, 0] rfl)
    · replace hf := cd_fk hq hf
      refine lv_iconst (v := 0) X.1 X.2.1 dX9_passes_8 (by decide) ?_
      refine lv_istore (lv' := [(4, .int 0), (0, .ref (B + 0)), (1, .int x1), (2, .int x2), (3, .int x3)]) X.1 X.2.1 dX9_passes_9 hl (by decide) rfl (fun ls hl => ?_)
      exact w_X9_passes_11 X (fn_X9_passes_2 n) ih _ _ _ _ _ _ _ _ _ hf hw (lv_sub hl [1, 2, 3, 4, 0] rfl)
theorem hd_X9_passes : yX9_passes.cls = RX9 ∧ yX9_passes.cls ≠ "java/lang/invoke/MethodHandle" ∧ yX9_passes.cls ≠ "java/lang/invoke/VarHandle" ∧ (parseMethodDescriptor yX9_passes.desc).map (fun d => d.parameters.length) = some 2 := by decide +kernel
set_option maxHeartbeats 4000000 in
theorem c_X9_passes (l : Launch) (D : va_G) (B : Nat) (cy : Nat → ClassId) (A : Nat → Prop) (ad av : Nat → Nat) {z : Nat} (x1 : Int32) (x2 : Int32) {S Z : HS} (hfr : hFr S) (hG : (hMz z) S) (hf : fn_X9_passes x1 x2 S = some Z) : hMet l yX9_passes cX9_passes 6 none ({ frames := 2, cells := 0, slots := 0, locals := 47 } : Room) D B cy A ad av true (hMz z) [.ref (B + 0), .int x1, .int x2] S Z none 0 0 := by
  refine h_entry (by decide) hfr hG ?_
  intro p e s m below meth c args X hnm hw
  have hl := lv_entry ([.ref (B + 0), .int x1, .int x2]) (n := 6) (Nat.le_of_ble_eq_true rfl)
  rw [lg_entry_eq]
  generalize (lg_sl ([.ref (B + 0), .int x1, .int x2]) ++ List.replicate (6 - (lg_sl ([.ref (B + 0), .int x1, .int x2])).length) Slot.unset).toArray = ls at hl ⊢
  have hl : lv_has ls 6 [(0, .ref (B + 0)), (1, .int x1), (2, .int x2)] := hl
  unfold fn_X9_passes at hf
  refine lv_iconst (v := 0) X.1 X.2.1 dX9_passes_0 (by decide) ?_
  refine lv_istore_n (lv' := [(3, .int 0), (0, .ref (B + 0)), (1, .int x1), (2, .int x2)]) X.1 X.2.1 dX9_passes_1 rfl hl (by decide) rfl (fun ls hl => ?_)
  exact w_X9_passes_2 X  _ _ _ _ _ _ _ _ hf hw (lv_sub hl [1, 2, 3, 0] rfl)
set_option maxHeartbeats 4000000 in
theorem w_X9_isDay_16 {p : Program} {l : Launch} {e : Env} {s : State} {m : MethodId} {args : Array Value} {below : List Frame} {meth : Method} {c : Code} {D : va_G} {B : Nat} {cy : Nat → ClassId} {A : Nat → Prop} {ad av : Nat → Nat} {rv : Int32} {Z : HS} (X : hCX p s m args meth c RX9 cX9_isDay 2 (some .boolean) D cy A ad av) {z : Nat}  (y0 : Int32) (S : HS) (H : Heap) (locs : List Loc) (ls : Array Slot) (hf : fn_X9_isDay_16 y0 S = some (rv, Z)) (hw : hWd D B cy A true (hMz z) S s.heap H locs) (hl : lv_has ls 2 []) : W p l e ({ frames := 0, cells := 0, slots := 0, locals := 0 } : Room) s m args below meth c H locs 0 0 (MQ below (hQo D B cy A true (hMz z) Z (some (.int rv))) args s 0 0 A) (F0 m 16 ls [.int y0]) := by
  unfold fn_X9_isDay_16 at hf
  obtain ⟨g1, hf⟩ := gd_ok hf
  cases hf
  exact r_zret X hw g1 dX9_isDay_16
set_option maxHeartbeats 4000000 in
theorem w_X9_isDay_15 {p : Program} {l : Launch} {e : Env} {s : State} {m : MethodId} {args : Array Value} {below : List Frame} {meth : Method} {c : Code} {D : va_G} {B : Nat} {cy : Nat → ClassId} {A : Nat → Prop} {ad av : Nat → Nat} {rv : Int32} {Z : HS} (X : hCX p s m args meth c RX9 cX9_isDay 2 (some .boolean) D cy A ad av) {z : Nat}   (S : HS) (H : Heap) (locs : List Loc) (ls : Array Slot) (hf : fn_X9_isDay_15 S = some (rv, Z)) (hw : hWd D B cy A true (hMz z) S s.heap H locs) (hl : lv_has ls 2 []) : W p l e ({ frames := 0, cells := 0, slots := 0, locals := 0 } : Room) s m args below meth c H locs 0 0 (MQ below (hQo D B cy A true (hMz z) Z (some (.int rv))) args s 0 0 A) (F0 m 15 ls []) := by
  unfold fn_X9_isDay_15 at hf
  refine lv_iconst (v := 0) X.1 X.2.1 dX9_isDay_15 (by decide) ?_
  exact w_X9_isDay_16 X  _ _ _ _ _ hf hw (lv_sub hl [] rfl)
theorem hd_X9_isDay : yX9_isDay.cls = RX9 ∧ yX9_isDay.cls ≠ "java/lang/invoke/MethodHandle" ∧ yX9_isDay.cls ≠ "java/lang/invoke/VarHandle" ∧ (parseMethodDescriptor yX9_isDay.desc).map (fun d => d.parameters.length) = some 1 := by decide +kernel
set_option maxHeartbeats 4000000 in
theorem c_X9_isDay (l : Launch) (D : va_G) (B : Nat) (cy : Nat → ClassId) (A : Nat → Prop) (ad av : Nat → Nat) {z : Nat} (x1 : Int32) {S Z : HS} {rv : Int32} (hfr : hFr S) (hG : (hMz z) S) (hf : fn_X9_isDay x1 S = some (rv, Z)) : hMet l yX9_isDay cX9_isDay 2 (some .boolean) ({ frames := 0, cells := 0, slots := 0, locals := 0 } : Room) D B cy A ad av true (hMz z) [.ref (B + 0), .int x1] S Z (some (.int rv)) 0 0 := by
  refine h_entry (by decide) hfr hG ?_
  intro p e s m below meth c args X hnm hw
  have hl := lv_entry ([.ref (B + 0), .int x1]) (n := 2) (Nat.le_of_ble_eq_true rfl)
  rw [lg_entry_eq]
  generalize (lg_sl ([.ref (B + 0), .int x1]) ++ List.replicate (2 - (lg_sl ([.ref (B + 0), .int x1])).length) Slot.unset).toArray = ls at hl ⊢
  have hl : lv_has ls 2 [(0, .ref (B + 0)), (1, .int x1)] := hl
  unfold fn_X9_isDay at hf
  refine lv_iload_n X.1 X.2.1 dX9_isDay_0 rfl (lv_at hl 1 rfl) ?_
  refine lv_if_lt (tgt := 15) X.1 X.2.1 dX9_isDay_1 (by decide) (fun hq => ?_) (fun hq => ?_)
  · replace hf := cd_tk hq hf
    exact w_X9_isDay_15 X  _ _ _ _ hf hw (lv_sub hl [] rfl)
  · replace hf := cd_fk hq hf
    refine lv_iload_n X.1 X.2.1 dX9_isDay_4 rfl (lv_at hl 1 rfl) ?_
    refine lv_sipush (v := 1200) X.1 X.2.1 dX9_isDay_5 (by decide) ?_
    refine lv_icmp_ge (tgt := 15) X.1 X.2.1 dX9_isDay_8 (by decide) (fun hq => ?_) (fun hq => ?_)
    · replace hf := cd_tk hq hf
      exact w_X9_isDay_15 X  _ _ _ _ hf hw (lv_sub hl [] rfl)
    · replace hf := cd_fk hq hf
      refine lv_iconst (v := 1) X.1 X.2.1 dX9_isDay_11 (by decide) ?_
      refine lv_goto (tgt := 16) X.1 X.2.1 dX9_isDay_12 (by decide) ?_
      exact w_X9_isDay_16 X  _ _ _ _ _ hf hw (lv_sub hl [] rfl)
