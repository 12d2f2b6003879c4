set_option maxHeartbeats 4000000 in
theorem w_X9_met_40 {p : Program} {l : Launch} {e : Env} {s : State} {m : MethodId} {args : Array Value} {below : List Frame} {meth : Method} {c : Code} {D : va_G} {B : Nat} {cy : Nat → ClassId} {A : Nat → Prop} {ad av : Nat → Nat} {rv : Int32} {Z : HS} (X : hCX p s m args meth c RX9 cX9_met 3 (some .int) D cy A ad av) {z : Nat}  (y0 : Int32) (S : HS) (H : Heap) (locs : List Loc) (ls : Array Slot) (hf : fn_X9_met_40 y0 S = some (rv, Z)) (hw : hWd D B cy A true (hMz z) S s.heap H locs) (hl : lv_has ls 3 []) : W p l e ({ frames := 0, cells := 0, slots := 0, locals := 0 } : Room) s m args below meth c H locs 0 0 (MQ below (hQo D B cy A true (hMz z) Z (some (.int rv))) args s 0 0 A) (F0 m 40 ls [.int y0]) := by
  unfold fn_X9_met_40 at hf
  cases hf
  exact r_iret X hw dX9_met_40
set_option maxHeartbeats 4000000 in
theorem w_X9_met_26 {p : Program} {l : Launch} {e : Env} {s : State} {m : MethodId} {args : Array Value} {below : List Frame} {meth : Method} {c : Code} {D : va_G} {B : Nat} {cy : Nat → ClassId} {A : Nat → Prop} {ad av : Nat → Nat} {rv : Int32} {Z : HS} (X : hCX p s m args meth c RX9 cX9_met 3 (some .int) D cy A ad av) {z : Nat}   (S : HS) (H : Heap) (locs : List Loc) (ls : Array Slot) (hf : fn_X9_met_26 S = some (rv, Z)) (hw : hWd D B cy A true (hMz z) S s.heap H locs) (hl : lv_has ls 3 []) : W p l e ({ frames := 0, cells := 0, slots := 0, locals := 0 } : Room) s m args below meth c H locs 0 0 (MQ below (hQo D B cy A true (hMz z) Z (some (.int rv))) args s 0 0 A) (F0 m 26 ls []) := by
  unfold fn_X9_met_26 at hf
  refine lv_iconst (v := (-1)) X.1 X.2.1 dX9_met_26 (by decide) ?_
  refine lv_goto (tgt := 40) X.1 X.2.1 dX9_met_27 (by decide) ?_
  exact w_X9_met_40 X  _ _ _ _ _ hf hw (lv_sub hl [] rfl)
theorem hd_X9_met : yX9_met.cls = RX9 ∧ yX9_met.cls ≠ "java/lang/invoke/MethodHandle" ∧ yX9_met.cls ≠ "java/lang/invoke/VarHandle" ∧ (parseMethodDescriptor yX9_met.desc).map (fun d => d.parameters.length) = some 2 := by decide +kernel
set_option maxHeartbeats 4000000 in
theorem c_X9_met (l : Launch) (D : va_G) (B : Nat) (cy : Nat → ClassId) (A : Nat → Prop) (ad av : Nat → Nat) {z : Nat} (x1 : Int32) (x2 : Int32) {S Z : HS} {rv : Int32} (hfr : hFr S) (hG : (hMz z) S) (hf : fn_X9_met x1 x2 S = some (rv, Z)) : hMet l yX9_met cX9_met 3 (some .int) ({ frames := 0, cells := 0, slots := 0, locals := 0 } : Room) D B cy A ad av true (hMz z) [.ref (B + 0), .int x1, .int x2] S Z (some (.int rv)) 0 0 := by
  refine h_entry (by decide) hfr hG ?_
  intro p e s m below meth c args X hnm hw
  have hl := lv_entry ([.ref (B + 0), .int x1, .int x2]) (n := 3) (Nat.le_of_ble_eq_true rfl)
  rw [lg_entry_eq]
  generalize (lg_sl ([.ref (B + 0), .int x1, .int x2]) ++ List.replicate (3 - (lg_sl ([.ref (B + 0), .int x1, .int x2])).length) Slot.unset).toArray = ls at hl ⊢
  have hl : lv_has ls 3 [(0, .ref (B + 0)), (1, .int x1), (2, .int x2)] := hl
  unfold fn_X9_met at hf
  refine lv_aload_n X.1 X.2.1 dX9_met_0 rfl (lv_at hl 0 rfl) ?_
  refine lv_iconst (v := 0) X.1 X.2.1 dX9_met_1 (by decide) ?_
  obtain ⟨S1, eS1, hf⟩ := bn_ok hf
  replace eS1 := Option.some.inj eS1
  refine r_putI X hw (κ := 10) rfl inlX9 tyX9 tyX9_ok nmX9 0 (by decide) rfl (by decide) tw_158 (Or.inl rfl) (hMk hw.2.2.2.2.2.1 0 rfl) rfl rfl hw.2.2.2.2.2 dX9_met_2 (fun H locs hw => ?_)
  rw [eS1] at hw
  refine lv_iload_n X.1 X.2.1 dX9_met_5 rfl (lv_at hl 1 rfl) ?_
  refine lv_if_lt (tgt := 26) X.1 X.2.1 dX9_met_6 (by decide) (fun hq => ?_) (fun hq => ?_)
  · replace hf := cd_tk hq hf
    exact w_X9_met_26 X  _ _ _ _ hf hw (lv_sub hl [] rfl)
  · replace hf := cd_fk hq hf
    refine lv_iload_n X.1 X.2.1 dX9_met_9 rfl (lv_at hl 1 rfl) ?_
    refine lv_aload_n X.1 X.2.1 dX9_met_10 rfl (lv_at hl 0 rfl) ?_
    refine r_getI X hw (κ := 10) rfl inlX9 59 (by decide) rfl (by decide) tw_961 (hMk hw.2.2.2.2.2.1 0 rfl) dX9_met_11 ?_
    refine lv_icmp_ge (tgt := 26) X.1 X.2.1 dX9_met_14 (by decide) (fun hq => ?_) (fun hq => ?_)
    · replace hf := cd_tk hq hf
      exact w_X9_met_26 X  _ _ _ _ hf hw (lv_sub hl [] rfl)
    · replace hf := cd_fk hq hf
      refine lv_iload_n X.1 X.2.1 dX9_met_17 rfl (lv_at hl 2 rfl) ?_
      refine lv_if_lt (tgt := 26) X.1 X.2.1 dX9_met_18 (by decide) (fun hq => ?_) (fun hq => ?_)
      · replace hf := cd_tk hq hf
        exact w_X9_met_26 X  _ _ _ _ hf hw (lv_sub hl [] rfl)
      · replace hf := cd_fk hq hf
        refine lv_iload_n X.1 X.2.1 dX9_met_21 rfl (lv_at hl 2 rfl) ?_
        refine lv_iconst (v := 3) X.1 X.2.1 dX9_met_22 (by decide) ?_
        refine lv_icmp_le (tgt := 30) X.1 X.2.1 dX9_met_23 (by decide) (fun hq => ?_) (fun hq => ?_)
        · replace hf := cd_tk hq hf
          refine lv_aload_n X.1 X.2.1 dX9_met_30 rfl (lv_at hl 0 rfl) ?_
          refine r_getF X hw (κ := 10) rfl inlX9 58 (by decide) rfl (by decide) tw_144 (hMk hw.2.2.2.2.2.1 0 rfl) (hMr hw.2.2.2.2.2.1 0 58 rfl) dX9_met_31 ?_
          refine lv_iconst (v := 4) X.1 X.2.1 dX9_met_34 (by decide) ?_
          refine lv_iload_n X.1 X.2.1 dX9_met_35 rfl (lv_at hl 1 rfl) ?_
          refine lv_imul X.1 X.2.1 dX9_met_36 ?_
          refine lv_iload_n X.1 X.2.1 dX9_met_37 rfl (lv_at hl 2 rfl) ?_
          refine lv_iadd X.1 X.2.1 dX9_met_38 ?_
          obtain ⟨g2, hf⟩ := gd_ok hf
          refine r_iald X hw (hMk hw.2.2.2.2.2.1 40 rfl) (hMn hw.2.2.2.2.2.1 40 rfl) g2 dX9_met_39 ?_
          exact w_X9_met_40 X  _ _ _ _ _ hf hw (lv_sub hl [] rfl)
        · replace hf := cd_fk hq hf
          exact w_X9_met_26 X  _ _ _ _ hf hw (lv_sub hl [] rfl)
theorem hd_X9_count : yX9_count.cls = RX9 ∧ yX9_count.cls ≠ "java/lang/invoke/MethodHandle" ∧ yX9_count.cls ≠ "java/lang/invoke/VarHandle" ∧ (parseMethodDescriptor yX9_count.desc).map (fun d => d.parameters.length) = some 1 := by decide +kernel
set_option maxHeartbeats 4000000 in
theorem c_X9_count (l : Launch) (D : va_G) (B : Nat) (cy : Nat → ClassId) (A : Nat → Prop) (ad av : Nat → Nat) {z : Nat} (x1 : Int32) {S Z : HS} {rv : Int32} (hfr : hFr S) (hG : (hMz z) S) (hf : fn_X9_count x1 S = some (rv, Z)) : hMet l yX9_count cX9_count 2 (some .int) ({ frames := 0, cells := 0, slots := 0, locals := 0 } : Room) D B cy A ad av true (hMz z) [.ref (B + 0), .int x1] S Z (some (.int rv)) 0 0 := by
  refine h_entry (by decide) hfr hG ?_
  intro p e s m below meth c args X hnm hw
  have hl := lv_entry ([.ref (B + 0), .int x1]) (n := 2) (Nat.le_of_ble_eq_true rfl)
  rw [lg_entry_eq]
  generalize (lg_sl ([.ref (B + 0), .int x1]) ++ List.replicate (2 - (lg_sl ([.ref (B + 0), .int x1])).length) Slot.unset).toArray = ls at hl ⊢
  have hl : lv_has ls 2 [(0, .ref (B + 0)), (1, .int x1)] := hl
  unfold fn_X9_count at hf
  refine lv_aload_n X.1 X.2.1 dX9_count_0 rfl (lv_at hl 0 rfl) ?_
  refine lv_iconst (v := 0) X.1 X.2.1 dX9_count_1 (by decide) ?_
  obtain ⟨S1, eS1, hf⟩ := bn_ok hf
  replace eS1 := Option.some.inj eS1
  refine r_putI X hw (κ := 10) rfl inlX9 tyX9 tyX9_ok nmX9 0 (by decide) rfl (by decide) tw_158 (Or.inl rfl) (hMk hw.2.2.2.2.2.1 0 rfl) rfl rfl hw.2.2.2.2.2 dX9_count_2 (fun H locs hw => ?_)
  rw [eS1] at hw
  refine lv_iload_n X.1 X.2.1 dX9_count_5 rfl (lv_at hl 1 rfl) ?_
  by_cases hq0 : x1 = 0
  · replace hf := cd_tk hq0 hf
    refine lv_tableIn (off := 42) (tgt := 48) X.1 X.2.1 dX9_count_6 (by rw [hq0]; decide) (by rw [hq0]; decide) (by rw [hq0]; rfl) (by decide) ?_
    refine lv_aload_n X.1 X.2.1 dX9_count_48 rfl (lv_at hl 0 rfl) ?_
    refine r_getI X hw (κ := 10) rfl inlX9 3 (by decide) rfl (by decide) tw_450 (hMk hw.2.2.2.2.2.1 0 rfl) dX9_count_49 ?_
    cases hf
    exact r_iret X hw dX9_count_52
  · replace hf := cd_fk hq0 hf
    by_cases hq1 : x1 = 1
    · replace hf := cd_tk hq1 hf
      refine lv_tableIn (off := 47) (tgt := 53) X.1 X.2.1 dX9_count_6 (by rw [hq1]; decide) (by rw [hq1]; decide) (by rw [hq1]; rfl) (by decide) ?_
      refine lv_aload_n X.1 X.2.1 dX9_count_53 rfl (lv_at hl 0 rfl) ?_
      refine r_getI X hw (κ := 10) rfl inlX9 7 (by decide) rfl (by decide) tw_445 (hMk hw.2.2.2.2.2.1 0 rfl) dX9_count_54 ?_
      cases hf
      exact r_iret X hw dX9_count_57
    · replace hf := cd_fk hq1 hf
      by_cases hq2 : x1 = 2
      · replace hf := cd_tk hq2 hf
        refine lv_tableIn (off := 52) (tgt := 58) X.1 X.2.1 dX9_count_6 (by rw [hq2]; decide) (by rw [hq2]; decide) (by rw [hq2]; rfl) (by decide) ?_
        refine lv_aload_n X.1 X.2.1 dX9_count_58 rfl (lv_at hl 0 rfl) ?_
        refine r_getI X hw (κ := 10) rfl inlX9 28 (by decide) rfl (by decide) tw_538 (hMk hw.2.2.2.2.2.1 0 rfl) dX9_count_59 ?_
        cases hf
        exact r_iret X hw dX9_count_62
      · replace hf := cd_fk hq2 hf
        by_cases hq3 : x1 = 3
        · replace hf := cd_tk hq3 hf
          refine lv_tableIn (off := 57) (tgt := 63) X.1 X.2.1 dX9_count_6 (by rw [hq3]; decide) (by rw [hq3]; decide) (by rw [hq3]; rfl) (by decide) ?_
          refine lv_aload_n X.1 X.2.1 dX9_count_63 rfl (lv_at hl 0 rfl) ?_
          refine r_getI X hw (κ := 10) rfl inlX9 34 (by decide) rfl (by decide) tw_575 (hMk hw.2.2.2.2.2.1 0 rfl) dX9_count_64 ?_
          cases hf
          exact r_iret X hw dX9_count_67
        · replace hf := cd_fk hq3 hf
          by_cases hq4 : x1 = 4
          · replace hf := cd_tk hq4 hf
            refine lv_tableIn (off := 62) (tgt := 68) X.1 X.2.1 dX9_count_6 (by rw [hq4]; decide) (by rw [hq4]; decide) (by rw [hq4]; rfl) (by decide) ?_
            refine lv_aload_n X.1 X.2.1 dX9_count_68 rfl (lv_at hl 0 rfl) ?_
            refine r_getF X hw (κ := 10) rfl inlX9 6 (by decide) rfl (by decide) tw_107 (hMk hw.2.2.2.2.2.1 0 rfl) (hMr hw.2.2.2.2.2.1 0 6 rfl) dX9_count_69 ?_
            refine lv_aload_n X.1 X.2.1 dX9_count_72 rfl (lv_at hl 0 rfl) ?_
            refine r_getI X hw (κ := 10) rfl inlX9 7 (by decide) rfl (by decide) tw_445 (hMk hw.2.2.2.2.2.1 0 rfl) dX9_count_73 ?_
            obtain ⟨g2, hf⟩ := gd_ok hf
            refine r_iald X hw (hMk hw.2.2.2.2.2.1 4 rfl) (hMn hw.2.2.2.2.2.1 4 rfl) g2 dX9_count_76 ?_
            cases hf
            exact r_iret X hw dX9_count_77
          · replace hf := cd_fk hq4 hf
            by_cases hq5 : x1 = 5
            · replace hf := cd_tk hq5 hf
              refine lv_tableIn (off := 72) (tgt := 78) X.1 X.2.1 dX9_count_6 (by rw [hq5]; decide) (by rw [hq5]; decide) (by rw [hq5]; rfl) (by decide) ?_
              refine lv_aload_n X.1 X.2.1 dX9_count_78 rfl (lv_at hl 0 rfl) ?_
              refine r_getI X hw (κ := 10) rfl inlX9 54 (by decide) rfl (by decide) tw_865 (hMk hw.2.2.2.2.2.1 0 rfl) dX9_count_79 ?_
              cases hf
              exact r_iret X hw dX9_count_82
            · replace hf := cd_fk hq5 hf
              by_cases hq6 : x1 = 6
              · replace hf := cd_tk hq6 hf
                refine lv_tableIn (off := 77) (tgt := 83) X.1 X.2.1 dX9_count_6 (by rw [hq6]; decide) (by rw [hq6]; decide) (by rw [hq6]; rfl) (by decide) ?_
                refine lv_aload_n X.1 X.2.1 dX9_count_83 rfl (lv_at hl 0 rfl) ?_
                refine r_getI X hw (κ := 10) rfl inlX9 55 (by decide) rfl (by decide) tw_864 (hMk hw.2.2.2.2.2.1 0 rfl) dX9_count_84 ?_
                cases hf
                exact r_iret X hw dX9_count_87
              · replace hf := cd_fk hq6 hf
                have hout : x1.toInt < 0 ∨ 6 < x1.toInt := by
                  have g0 := lv_neT (a := 0) hq0 rfl
                  have g1 := lv_neT (a := 1) hq1 rfl
                  have g2 := lv_neT (a := 2) hq2 rfl
                  have g3 := lv_neT (a := 3) hq3 rfl
                  have g4 := lv_neT (a := 4) hq4 rfl
                  have g5 := lv_neT (a := 5) hq5 rfl
                  have g6 := lv_neT (a := 6) hq6 rfl
                  omega
                refine lv_tableOut (tgt := 88) X.1 X.2.1 dX9_count_6 hout (by decide) ?_
                refine lv_iconst (v := (-1)) X.1 X.2.1 dX9_count_88 (by decide) ?_
                cases hf
                exact r_iret X hw dX9_count_89
