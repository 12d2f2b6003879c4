/-! ArrayList: size() and get(i) -/
noncomputable def fl_size (c0 : Nat) (S : HS) : Option (Int32 × HS) := gd (gK S c0 = 0) (some (gI S c0 2, S))
noncomputable def fl_get (c0 : Nat) (i : Int32) (S : HS) : Option (Option Nat × HS) := gd (gK S c0 = 0) (gd (¬ i < 0 ∧ i < gI S c0 2) (bn (gR S c0 1) (fun d => gd (gK S d = 25 ∧ vp_in i (gN S d)) (some (gR S d i.toNatClampNeg, S)))))
section JLR
variable {p : Program} {l : Launch} {e : Env} {R : Room} {s : State} {m : MethodId} {args : Array Value} {below : List Frame} {meth : Method} {c : Code} {H : Heap} {locs : List Loc} {cells slots : Nat} {Q : State → Prop}
variable {cc : ByteArray} {nL : Nat} {ret : Option FieldType} {own : String} {pc : Nat} {ls : Array Slot} {rest : List Value} {D : va_G} {cy : Nat → ClassId} {A : Nat → Prop} {ad av : Nat → Nat} {B : Nat} {ex : Bool} {G : HS → Prop} {S : HS} {H0 : Heap}
/-- elementData: an array of ours, or the old empty one -/
theorem r_getD (X : hCX p s m args meth c own cc nL ret D cy A ad av) (hw : hWd D B cy A ex G S H0 H locs) {idx : Nat} (hl : Cond.fieldLink own idx "java/util/ArrayList" "elementData" "[Ljava/lang/Object;" ∈ wsL_law) {c0 : Nat} (hκ : gK S c0 = 0) (hd : decode cc pc = .ok (.getfield idx, 3))
    (kk : W p l e R s m args below meth c H locs cells slots Q (F0 m (pc + 3) ls (.ref ((gR S c0 1).elim (cy 99) (B + ·)) :: rest))) : W p l e R s m args below meth c H locs cells slots Q (F0 m pc ls (.ref (B + c0) :: rest)) := by
  obtain ⟨hx, hb, hml, hown, hts, hK, -⟩ := X
  obtain ⟨hP, hD, hS, hz, hf, hG⟩ := hw
  obtain ⟨q0, hq⟩ := hWs_get (B := B) (cy := cy) (hFr_in hf hκ (by omega))
  rw [hEn_obj hκ (by omega)] at hq
  exact va_get (D := D) (ci := 0) (C := RJx4a65c) (T := TJx4a65c) (N := 3) (v := .ref ((gR S c0 1).elim (cy 99) (B + ·))) hx hb hts inlJx4a65c hown hK hP q0 hq rfl 1 (by decide) (hts _ hl) (fun _ h9 => h9) (hFs_get (t := 2) rfl) hd kk
end JLR
section JLC
variable (l : Launch) (D : va_G) (B : Nat) (cy : Nat → ClassId) (A : Nat → Prop) (ad av : Nat → Nat) (ex : Bool) (G : HS → Prop) {S : HS}
theorem c_J15_checkIndex (hfr : hFr S) (hG : G S) (i n : Int32) (h0 : ¬ i < 0) (h1 : i < n) : hMet l yJ15_checkIndex_7cf53 cJ15_checkIndex_7cf53 2 (some .int) { frames := 1, cells := 0, slots := 0, locals := 22 } D B cy A ad av ex G [.int i, .int n] S S (some (.int i)) 0 0 := by
  refine h_entry (by decide) hfr hG ?_
  intro p e s m below meth c args X hnm hw
  have hl := lv_entry ([.int i, .int n]) (n := 2) (Nat.le_of_ble_eq_true rfl)
  rw [lg_entry_eq]
  generalize (lg_sl ([.int i, .int n]) ++ List.replicate (2 - (lg_sl ([.int i, .int n])).length) Slot.unset).toArray = ls at hl ⊢
  have hl : lv_has ls 2 [(0, .int i), (1, .int n)] := hl
  refine lv_iload_n X.1 X.2.1 dJ15_checkIndex_7cf53_0 rfl (lv_at hl 0 rfl) ?_
  refine lv_iload_n X.1 X.2.1 dJ15_checkIndex_7cf53_1 rfl (lv_at hl 1 rfl) ?_
  refine lv_null X.1 X.2.1 dJ15_checkIndex_7cf53_2 ?_
  refine r_callS (As := [.int i, .int n, .null]) (rest := []) (st1 := [.int i]) X hw (c_J3_checkIndex l D B cy A ad av ex G hw.2.2.2.2.1 hw.2.2.2.2.2 i n .null (Or.inl rfl) h0 h1) ⟨rfl, rfl, Nat.le_of_ble_eq_true rfl, Nat.le_of_ble_eq_true rfl⟩ tw_427 tw_251 tw_252 tw_253 hd_J3_checkIndex rfl hl.1 rfl (Nat.le_of_ble_eq_true rfl) dJ15_checkIndex_7cf53_3 ⟨Nat.le_of_ble_eq_true rfl, Nat.le_of_ble_eq_true rfl⟩ rfl (fun H locs hw => ?_)
  exact r_iret X hw dJ15_checkIndex_7cf53_6
theorem hd_J15_checkIndex : yJ15_checkIndex_7cf53.cls ≠ "java/lang/invoke/MethodHandle" ∧ yJ15_checkIndex_7cf53.cls ≠ "java/lang/invoke/VarHandle" ∧ (parseMethodDescriptor yJ15_checkIndex_7cf53.desc).map (fun d => d.parameters.length) = some 2 := by decide +kernel
theorem c_Jl_size (c0 : Nat) {rv : Int32} {Z : HS} (hfr : hFr S) (hG : G S) (hf : fl_size c0 S = some (rv, Z)) : hMet l yJx4a65c_size_8abf5 cJx4a65c_size_8abf5 1 (some .int) { frames := 0, cells := 0, slots := 0, locals := 0 } D B cy A ad av ex G [.ref (B + c0)] S Z (some (.int rv)) 0 0 := by
  obtain ⟨hκ, hf⟩ := gd_ok hf
  cases hf
  refine h_entry (by decide) hfr hG ?_
  intro p e s m below meth c args X hnm hw
  have hl := lv_entry ([.ref (B + c0)]) (n := 1) (Nat.le_of_ble_eq_true rfl)
  rw [lg_entry_eq]
  generalize (lg_sl ([.ref (B + c0)]) ++ List.replicate (1 - (lg_sl ([.ref (B + c0)])).length) Slot.unset).toArray = ls at hl ⊢
  have hl : lv_has ls 1 [(0, .ref (B + c0))] := hl
  refine lv_aload_n X.1 X.2.1 dJx4a65c_size_8abf5_0 rfl (lv_at hl 0 rfl) ?_
  refine r_getI X hw (κ := 0) rfl inlJx4a65c 2 (by decide) rfl (by decide) tw_178 hκ dJx4a65c_size_8abf5_1 ?_
  exact r_iret X hw dJx4a65c_size_8abf5_4
theorem hd_Jl_size : yJx4a65c_size_8abf5.cls = RJx4a65c ∧ yJx4a65c_size_8abf5.cls ≠ "java/lang/invoke/MethodHandle" ∧ yJx4a65c_size_8abf5.cls ≠ "java/lang/invoke/VarHandle" ∧ (parseMethodDescriptor yJx4a65c_size_8abf5.desc).map (fun d => d.parameters.length) = some 0 := by decide +kernel
theorem c_Jl_elementData (c0 d : Nat) (i : Int32) (hfr : hFr S) (hG : G S) (hκ : gK S c0 = 0) (hr : gR S c0 1 = some d) (hκ2 : gK S d = 25) (hi : vp_in i (gN S d)) : hMet l yJx4a65c_elementData_915e3 cJx4a65c_elementData_915e3 2 (some (.object "java/lang/Object")) { frames := 0, cells := 0, slots := 0, locals := 0 } D B cy A ad av ex G [.ref (B + c0), .int i] S S (some (va_rf ((gR S d i.toNatClampNeg).map (B + ·)))) 0 0 := by
  refine h_entry (by decide) hfr hG ?_
  intro p e s m below meth c args X hnm hw
  have hl := lv_entry ([.ref (B + c0), .int i]) (n := 2) (Nat.le_of_ble_eq_true rfl)
  rw [lg_entry_eq]
  generalize (lg_sl ([.ref (B + c0), .int i]) ++ List.replicate (2 - (lg_sl ([.ref (B + c0), .int i])).length) Slot.unset).toArray = ls at hl ⊢
  have hl : lv_has ls 2 [(0, .ref (B + c0)), (1, .int i)] := hl
  refine lv_aload_n X.1 X.2.1 dJx4a65c_elementData_915e3_0 rfl (lv_at hl 0 rfl) ?_
  refine r_getD X hw tw_55 hκ dJx4a65c_elementData_915e3_1 ?_
  rw [hr]
  refine lv_iload_n X.1 X.2.1 dJx4a65c_elementData_915e3_4 rfl (lv_at hl 1 rfl) ?_
  refine r_aald (c0 := d) X hw hκ2 (Or.inr rfl) rfl hi dJx4a65c_elementData_915e3_5 ?_
  exact r_aret X (Or.inl ⟨_, rfl⟩) hw dJx4a65c_elementData_915e3_6
theorem hd_Jl_elementData : yJx4a65c_elementData_915e3.cls = RJx4a65c ∧ yJx4a65c_elementData_915e3.cls ≠ "java/lang/invoke/MethodHandle" ∧ yJx4a65c_elementData_915e3.cls ≠ "java/lang/invoke/VarHandle" ∧ (parseMethodDescriptor yJx4a65c_elementData_915e3.desc).map (fun d => d.parameters.length) = some 1 := by decide +kernel
theorem c_Jl_get (c0 : Nat) (i : Int32) {rv : Option Nat} {Z : HS} (hfr : hFr S) (hG : G S) (hf : fl_get c0 i S = some (rv, Z)) : hMet l yJx4a65c_get_915e3 cJx4a65c_get_915e3 2 (some (.object "java/lang/Object")) { frames := 2, cells := 0, slots := 0, locals := 43 } D B cy A ad av ex G [.ref (B + c0), .int i] S Z (some (va_rf (rv.map (B + ·)))) 0 0 := by
  obtain ⟨hκ, hf⟩ := gd_ok hf
  obtain ⟨⟨h0, h1⟩, hf⟩ := gd_ok hf
  obtain ⟨d, hr, hf⟩ := bn_ok hf
  obtain ⟨⟨hκ2, hi⟩, hf⟩ := gd_ok hf
  cases hf
  refine h_entry (by decide) hfr hG ?_
  intro p e s m below meth c args X hnm hw
  have hl := lv_entry ([.ref (B + c0), .int i]) (n := 2) (Nat.le_of_ble_eq_true rfl)
  rw [lg_entry_eq]
  generalize (lg_sl ([.ref (B + c0), .int i]) ++ List.replicate (2 - (lg_sl ([.ref (B + c0), .int i])).length) Slot.unset).toArray = ls at hl ⊢
  have hl : lv_has ls 2 [(0, .ref (B + c0)), (1, .int i)] := hl
  refine lv_iload_n X.1 X.2.1 dJx4a65c_get_915e3_0 rfl (lv_at hl 1 rfl) ?_
  refine lv_aload_n X.1 X.2.1 dJx4a65c_get_915e3_1 rfl (lv_at hl 0 rfl) ?_
  refine r_getI X hw (κ := 0) rfl inlJx4a65c 2 (by decide) rfl (by decide) tw_178 hκ dJx4a65c_get_915e3_2 ?_
  refine r_callS (As := [.int i, .int (gI S c0 2)]) (rest := []) (st1 := [.int i]) X hw (c_J15_checkIndex l D B cy A ad av ex G hw.2.2.2.2.1 hw.2.2.2.2.2 i _ h0 h1) ⟨rfl, rfl, Nat.le_of_ble_eq_true rfl, Nat.le_of_ble_eq_true rfl⟩ tw_423 tw_424 tw_425 tw_426 hd_J15_checkIndex rfl hl.1 rfl (Nat.le_of_ble_eq_true rfl) dJx4a65c_get_915e3_5 ⟨Nat.le_of_ble_eq_true rfl, Nat.le_of_ble_eq_true rfl⟩ rfl (fun H locs hw => ?_)
  refine lv_pop X.1 X.2.1 dJx4a65c_get_915e3_8 rfl ?_
  refine lv_aload_n X.1 X.2.1 dJx4a65c_get_915e3_9 rfl (lv_at hl 0 rfl) ?_
  refine lv_iload_n X.1 X.2.1 dJx4a65c_get_915e3_10 rfl (lv_at hl 1 rfl) ?_
  refine r_callV (As := [.int i]) (rest := []) (st1 := [va_rf ((gR S d i.toNatClampNeg).map (B + ·))]) (κ := 0) X hw (c_Jl_elementData l D B cy A ad av ex G c0 d i hw.2.2.2.2.1 hw.2.2.2.2.2 hκ hr hκ2 hi) ⟨rfl, rfl, Nat.le_of_ble_eq_true rfl, Nat.le_of_ble_eq_true rfl⟩ rfl (by decide) hκ tw_428 tw_429 tw_430 tw_20 tw_431 hd_Jl_elementData rfl hl.1 rfl (Nat.le_of_ble_eq_true rfl) dJx4a65c_get_915e3_11 ⟨Nat.le_of_ble_eq_true rfl, Nat.le_of_ble_eq_true rfl⟩ rfl (fun H locs hw => ?_)
  exact r_aret X (Or.inl ⟨_, rfl⟩) hw dJx4a65c_get_915e3_14
theorem hd_Jl_get : yJx4a65c_get_915e3.cls = RJx4a65c ∧ yJx4a65c_get_915e3.cls ≠ "java/lang/invoke/MethodHandle" ∧ yJx4a65c_get_915e3.cls ≠ "java/lang/invoke/VarHandle" ∧ (parseMethodDescriptor yJx4a65c_get_915e3.desc).map (fun d => d.parameters.length) = some 1 := by decide +kernel
end JLC
