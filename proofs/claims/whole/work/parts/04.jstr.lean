/-! String constants: length() and charAt(i); Preconditions.checkIndex -/
def hCh (k i : Nat) : Int32 := (hSbyt.getD k []).getD i 0
section JSTR
variable {p : Program} {l : Launch} {e : Env} {R : Room} {s : State} {m : MethodId} {args : Array Value} {below : List Frame} {meth : Method} {c : Code} {H : Heap} {locs : List Loc} {cells slots : Nat} {Q : State → Prop}
variable {cc : ByteArray} {nL : Nat} {ret : Option FieldType} {own : String} {pc : Nat} {ls : Array Slot} {rest : List Value} {D : va_G} {cy : Nat → ClassId} {A : Nat → Prop} {ad av : Nat → Nat} {B : Nat} {ex : Bool} {G : HS → Prop} {S : HS} {H0 : Heap}
theorem r_tyret {ty : FieldType} (X : hCX p s m args meth c own cc nL (some ty) D cy A ad av) (hw : hWd D B cy A ex G S s.heap H locs) {v : Int32} (hz : narrow ty (.int v) = .int v) (hd : decode cc pc = .ok (.ireturn, 1)) : W p l e R s m args below meth c H locs cells slots (MQ below (hQo D B cy A ex G S (some (.int v))) args s cells slots A) (F0 m pc ls [.int v]) :=
  W.zret X.1 X.2.1 X.2.2.2.2.2.2.2.1 hz (h_end hw) hw.2.2.1.2.2 hd X.2.2.2.2.2.2.2.2
/-- a call of an instance method of an old object -/
theorem r_callO {y : MethodName} {bytes : ByteArray} {maxL idx n mc ms b : Nat} {rt : Option FieldType} {rm : Room} {Z : HS} {ov : Option Value} {As : List Value} {st0 : List Value} (X : hCX p s m args meth c own cc nL ret D cy A ad av) (hw : hWd D B cy A ex G S s.heap H locs) (hM : hMet l y bytes maxL rt rm D B cy A ad av ex G (.ref b :: As) S Z ov mc ms)
    (hrm : rm.cells = mc ∧ rm.slots = ms ∧ rm.frames + 1 ≤ R.frames ∧ 8 + (maxL + 11) + rm.locals ≤ R.locals) {C : String} (hrecv : ∃ cell : Cell, H[b]? = some cell ∧ cell.vm.isStatics = false ∧ s.vm.findClass C = some cell.cls)
    (w1 : Cond.methodLink own idx y ∈ wsL_law) (w2 : Cond.instanceMethod y ∈ wsL_law) (w3 : Cond.selects C y y ∈ wsL_law) (w4 : Cond.initialized C ∈ wsL_law) (w5 : Cond.code y bytes maxL rt ∈ wsL_law) (hd0 : y.cls = C ∧ y.cls ≠ "java/lang/invoke/MethodHandle" ∧ y.cls ≠ "java/lang/invoke/VarHandle" ∧ (parseMethodDescriptor y.desc).map (fun d => d.parameters.length) = some n)
    (hn : As.length = n) (hsize : ls.size = nL) (hst : st0 = As.reverse ++ .ref b :: rest) (hWt : (rest.map fun v => v.category).sum ≤ 8) (hd : decode cc pc = .ok (.invokevirtual idx, 3)) (hf : cells + mc ≤ R.cells ∧ slots + ms ≤ R.slots) {st1 : List Value} (hst1 : ov.toList ++ rest = st1)
    (kk : ∀ (H1 : Heap) (locs1 : List Loc), hWd D B cy A ex G Z s.heap H1 locs1 → W p l e R s m args below meth c H1 locs1 (cells + mc) (slots + ms) Q (F0 m (pc + 3) ls st1)) : W p l e R s m args below meth c H locs cells slots Q (F0 m pc ls st0) := by
  subst hst1
  have hX := X
  obtain ⟨hx, hb, hml, hown, hts, hK, -⟩ := X
  obtain ⟨hC, hd1⟩ := hd0
  have cb : CallB R s args own idx y bytes maxL rt (Cond.code y bytes maxL rt :: wsL_law) rm mc ms n := callB_of n hts (tw_inT w5) rfl hrm.1 hrm.2.1 (by rw [hC]; exact hts _ w4) (hts _ w1) hd1 hrm.2.2
  exact h_call hw (va_runV (As := As) (rest := rest) ⟨hx, hb, hml, hown, hts⟩ hM ⟨cb, hts _ w2, hts _ w3⟩ ⟨h_blind, hrecv, h_pre hX hw⟩ rfl hn hsize hst (lv_room hWt) hd hf) kk
end JSTR
section JSTRC
variable (l : Launch) (D : va_G) (B : Nat) (cy : Nat → ClassId) (A : Nat → Prop) (ad av : Nat → Nat) (ex : Bool) (G : HS → Prop) {S : HS}
theorem c_J3_checkIndex (hfr : hFr S) (hG : G S) (i n : Int32) (v : Value) (hv : v = .null ∨ ∃ a, v = .ref a) (h0 : ¬ i < 0) (h1 : i < n) : hMet l yJ3_checkIndex_8e157 cJ3_checkIndex_8e157 3 (some .int) { frames := 0, cells := 0, slots := 0, locals := 0 } D B cy A ad av ex G [.int i, .int n, v] S S (some (.int i)) 0 0 := by
  refine h_entry (by decide) hfr hG ?_
  intro p e s m below meth c args X hnm hw
  have hl : ∃ ls, lv_has ls 3 [(0, .int i), (1, .int n)] ∧ entryFrame m [.int i, .int n, v].toArray 3 = F0 m 0 ls [] := by
    rcases hv with rfl | ⟨a, rfl⟩
    · exact ⟨_, lv_sub (lv_entry ([.int i, .int n, .null]) (n := 3) (Nat.le_of_ble_eq_true rfl)) [0, 1] rfl, lg_entry_eq m [.int i, .int n, .null] 3⟩
    · exact ⟨_, lv_sub (lv_entry ([.int i, .int n, .ref a]) (n := 3) (Nat.le_of_ble_eq_true rfl)) [0, 1] rfl, lg_entry_eq m [.int i, .int n, .ref a] 3⟩
  obtain ⟨ls, hl, he⟩ := hl
  rw [he]
  refine lv_iload_n X.1 X.2.1 dJ3_checkIndex_8e157_0 rfl (lv_at hl 0 rfl) ?_
  refine lv_if_lt (tgt := 9) X.1 X.2.1 dJ3_checkIndex_8e157_1 (by decide) (fun hq => absurd hq h0) (fun hq => ?_)
  refine lv_iload_n X.1 X.2.1 dJ3_checkIndex_8e157_4 rfl (lv_at hl 0 rfl) ?_
  refine lv_iload_n X.1 X.2.1 dJ3_checkIndex_8e157_5 rfl (lv_at hl 1 rfl) ?_
  refine lv_icmp_lt (tgt := 16) X.1 X.2.1 dJ3_checkIndex_8e157_6 (by decide) (fun hq => ?_) (fun hq => absurd h1 hq)
  refine lv_iload_n X.1 X.2.1 dJ3_checkIndex_8e157_16 rfl (lv_at hl 0 rfl) ?_
  exact r_iret X hw dJ3_checkIndex_8e157_17
theorem hd_J3_checkIndex : yJ3_checkIndex_8e157.cls ≠ "java/lang/invoke/MethodHandle" ∧ yJ3_checkIndex_8e157.cls ≠ "java/lang/invoke/VarHandle" ∧ (parseMethodDescriptor yJ3_checkIndex_8e157.desc).map (fun d => d.parameters.length) = some 3 := by decide +kernel
theorem c_J0_checkIndex (hfr : hFr S) (hG : G S) (i n : Int32) (h0 : ¬ i < 0) (h1 : i < n) : hMet l yJ0_checkIndex_df160 cJ0_checkIndex_df160 2 none { frames := 1, cells := 0, slots := 0, locals := 22 } D B cy A ad av ex G [.int i, .int n] S S none 0 0 := by
  refine h_entry (by decide) hfr hG ?_
  intro p e s m below meth c args X hnm hw
  have hl := lv_entry ([.int i, .int n]) (n := 2) (Nat.le_of_ble_eq_true rfl)
  rw [lg_entry_eq]
  generalize (lg_sl ([.int i, .int n]) ++ List.replicate (2 - (lg_sl ([.int i, .int n])).length) Slot.unset).toArray = ls at hl ⊢
  have hl : lv_has ls 2 [(0, .int i), (1, .int n)] := hl
  refine lv_iload_n X.1 X.2.1 dJ0_checkIndex_df160_0 rfl (lv_at hl 0 rfl) ?_
  refine lv_iload_n X.1 X.2.1 dJ0_checkIndex_df160_1 rfl (lv_at hl 1 rfl) ?_
  have fin : ∀ v : Value, (v = .null ∨ ∃ a, v = .ref a) → W p l e ({ frames := 1, cells := 0, slots := 0, locals := 22 } : Room) s m args below meth c s.heap [] 0 0 (MQ below (hQo D B cy A ex G S none) args s 0 0 A) (F0 m 5 ls [v, .int n, .int i]) := by
    intro v hv
    refine r_callS (As := [.int i, .int n, v]) (rest := []) (st1 := [.int i]) X hw (c_J3_checkIndex l D B cy A ad av ex G hw.2.2.2.2.1 hw.2.2.2.2.2 i n v hv h0 h1) ⟨rfl, rfl, Nat.le_of_ble_eq_true rfl, Nat.le_of_ble_eq_true rfl⟩ tw_250 tw_251 tw_252 tw_253 hd_J3_checkIndex rfl hl.1 rfl (Nat.le_of_ble_eq_true rfl) dJ0_checkIndex_df160_5 ⟨Nat.le_of_ble_eq_true rfl, Nat.le_of_ble_eq_true rfl⟩ rfl (fun H locs hw => ?_)
    refine lv_pop X.1 X.2.1 dJ0_checkIndex_df160_8 rfl ?_
    exact r_vret X hw dJ0_checkIndex_df160_9
  rcases X.2.2.2.2.2.2.1.2.2.2.1 with hz | ⟨t, hz⟩
  · exact va_gets X.1 X.2.1 hz hw.2.2.1 X.2.2.2.1 (X.2.2.2.2.1 _ tw_249) (fun _ h => h) dJ0_checkIndex_df160_2 (fin .null (Or.inl rfl))
  · exact va_gets X.1 X.2.1 hz hw.2.2.1 X.2.2.2.1 (X.2.2.2.2.1 _ tw_249) (fun _ h => h) dJ0_checkIndex_df160_2 (fin (.ref t) (Or.inr ⟨t, rfl⟩))
theorem hd_J0_checkIndex : yJ0_checkIndex_df160.cls ≠ "java/lang/invoke/MethodHandle" ∧ yJ0_checkIndex_df160.cls ≠ "java/lang/invoke/VarHandle" ∧ (parseMethodDescriptor yJ0_checkIndex_df160.desc).map (fun d => d.parameters.length) = some 2 := by decide +kernel
theorem hSbyt_fit : ∀ k : Nat, k < 9 → ∀ j : Nat, j < hSlen.getD k 0 → ((hCh k j &&& 255).toUInt32 % 65536).toInt32 = hCh k j ∧ narrow .char (.int (hCh k j)) = .int (hCh k j) := by decide +kernel
theorem hSlen_lt : ∀ k : Nat, k < 9 → hSlen.getD k 0 < 2 ^ 31 := by decide +kernel
theorem c_J1_charAt (hfr : hFr S) (hG : G S) (k : Nat) (hk : k < 9) (i : Int32) (hi : vp_in i (hSlen.getD k 0)) : hMet l yJ1_charAt_3b067 cJ1_charAt_3b067 2 (some .char) { frames := 2, cells := 0, slots := 0, locals := 43 } D B cy A ad av ex G [.ref (av k), .int i] S S (some (.int (hCh k i.toNatClampNeg))) 0 0 := by
  have h0 : ¬ i < 0 := fun q => hi (Or.inl q)
  have hlt : i.toNatClampNeg < hSlen.getD k 0 := Nat.not_le.mp fun q => hi (Or.inr q)
  have h1 : i < nI (hSlen.getD k 0) := by
    obtain ⟨j, hj, rfl⟩ := vp_in_of hi (hSlen_lt k hk)
    exact nI_lt hj (hSlen_lt k hk)
  obtain ⟨hc1, hc2⟩ := hSbyt_fit k hk _ hlt
  refine h_entry (by decide) hfr hG ?_
  intro p e s m below meth c args X hnm hw
  have hl := lv_entry ([.ref (av k), .int i]) (n := 2) (Nat.le_of_ble_eq_true rfl)
  rw [lg_entry_eq]
  generalize (lg_sl ([.ref (av k), .int i]) ++ List.replicate (2 - (lg_sl ([.ref (av k), .int i])).length) Slot.unset).toArray = ls at hl ⊢
  have hl : lv_has ls 2 [(0, .ref (av k)), (1, .int i)] := hl
  have hT := (X.2.2.2.2.2.2.1.1.1 k hk).2.2.2
  refine lv_iload_n X.1 X.2.1 dJ1_charAt_3b067_0 rfl (lv_at hl 1 rfl) ?_
  refine lv_aload_n X.1 X.2.1 dJ1_charAt_3b067_1 rfl (lv_at hl 0 rfl) ?_
  refine va_tlen X.1 X.2.1 hT hw.2.2.1 (v := nI (hSlen.getD k 0)) rfl dJ1_charAt_3b067_2 ?_
  refine r_callS (As := [.int i, .int (nI (hSlen.getD k 0))]) (rest := []) (st1 := []) X hw (c_J0_checkIndex l D B cy A ad av ex G hw.2.2.2.2.1 hw.2.2.2.2.2 i _ h0 h1) ⟨rfl, rfl, Nat.le_of_ble_eq_true rfl, Nat.le_of_ble_eq_true rfl⟩ tw_246 tw_247 tw_225 tw_248 hd_J0_checkIndex rfl hl.1 rfl (Nat.le_of_ble_eq_true rfl) dJ1_charAt_3b067_3 ⟨Nat.le_of_ble_eq_true rfl, Nat.le_of_ble_eq_true rfl⟩ rfl (fun H locs hw => ?_)
  refine lv_aload_n X.1 X.2.1 dJ1_charAt_3b067_6 rfl (lv_at hl 0 rfl) ?_
  refine lv_iload_n X.1 X.2.1 dJ1_charAt_3b067_7 rfl (lv_at hl 1 rfl) ?_
  refine va_tb X.1 X.2.1 hT hw.2.2.1 hi (v := .int (hCh k i.toNatClampNeg)) rfl dJ1_charAt_3b067_8 ?_
  refine lv_sipush (v := 255) X.1 X.2.1 dJ1_charAt_3b067_9 (by decide) ?_
  refine lv_iand X.1 X.2.1 dJ1_charAt_3b067_12 ?_
  refine lv_i2c (v := hCh k i.toNatClampNeg) X.1 X.2.1 dJ1_charAt_3b067_13 hc1 ?_
  exact r_tyret X hw hc2 dJ1_charAt_3b067_14
theorem hd_J1_charAt : yJ1_charAt_3b067.cls ≠ "java/lang/invoke/MethodHandle" ∧ yJ1_charAt_3b067.cls ≠ "java/lang/invoke/VarHandle" ∧ (parseMethodDescriptor yJ1_charAt_3b067.desc).map (fun d => d.parameters.length) = some 2 := by decide +kernel
theorem c_J0_isLatin1 (hfr : hFr S) (hG : G S) (k : Nat) (hk : k < 9) : hMet l yJ0_isLatin1_aae02 cJ0_isLatin1_aae02 1 (some .boolean) { frames := 0, cells := 0, slots := 0, locals := 0 } D B cy A ad av ex G [.ref (ad k)] S S (some (.int 1)) 0 0 := by
  refine h_entry (by decide) hfr hG ?_
  intro p e s m below meth c args X hnm hw
  have hl := lv_entry ([.ref (ad k)]) (n := 1) (Nat.le_of_ble_eq_true rfl)
  rw [lg_entry_eq]
  generalize (lg_sl ([.ref (ad k)]) ++ List.replicate (1 - (lg_sl ([.ref (ad k)])).length) Slot.unset).toArray = ls at hl ⊢
  have hl : lv_has ls 1 [(0, .ref (ad k))] := hl
  refine va_gets X.1 X.2.1 X.2.2.2.2.2.2.1.2.2.1 hw.2.2.1 X.2.2.2.1 (X.2.2.2.2.1 _ tw_232) (fun _ h => h) dJ0_isLatin1_aae02_0 ?_
  refine lv_if_eq (tgt := 17) X.1 X.2.1 dJ0_isLatin1_aae02_3 (by decide) (fun hq => absurd hq (by decide)) (fun _ => ?_)
  refine lv_aload_n X.1 X.2.1 dJ0_isLatin1_aae02_6 rfl (lv_at hl 0 rfl) ?_
  refine vk_getf X.1 X.2.1 (X.2.2.2.2.2.2.1.1.1 k hk).2.1 hw.2.2.1 X.2.2.2.1 (X.2.2.2.2.1 _ tw_233) (fun _ h => h) dJ0_isLatin1_aae02_7 ?_
  refine lv_if_ne (tgt := 17) X.1 X.2.1 dJ0_isLatin1_aae02_10 (by decide) (fun hq => absurd rfl hq) (fun _ => ?_)
  refine lv_iconst (v := 1) X.1 X.2.1 dJ0_isLatin1_aae02_13 (by decide) ?_
  refine lv_goto (tgt := 18) X.1 X.2.1 dJ0_isLatin1_aae02_14 (by decide) ?_
  exact r_tyret X hw rfl dJ0_isLatin1_aae02_18
theorem hd_J0_isLatin1 : yJ0_isLatin1_aae02.cls = RJ0 ∧ yJ0_isLatin1_aae02.cls ≠ "java/lang/invoke/MethodHandle" ∧ yJ0_isLatin1_aae02.cls ≠ "java/lang/invoke/VarHandle" ∧ (parseMethodDescriptor yJ0_isLatin1_aae02.desc).map (fun d => d.parameters.length) = some 0 := by decide +kernel
theorem c_J0_coder (hfr : hFr S) (hG : G S) (k : Nat) (hk : k < 9) : hMet l yJ0_coder_7d493 cJ0_coder_7d493 1 (some .byte) { frames := 0, cells := 0, slots := 0, locals := 0 } D B cy A ad av ex G [.ref (ad k)] S S (some (.int 0)) 0 0 := by
  refine h_entry (by decide) hfr hG ?_
  intro p e s m below meth c args X hnm hw
  have hl := lv_entry ([.ref (ad k)]) (n := 1) (Nat.le_of_ble_eq_true rfl)
  rw [lg_entry_eq]
  generalize (lg_sl ([.ref (ad k)]) ++ List.replicate (1 - (lg_sl ([.ref (ad k)])).length) Slot.unset).toArray = ls at hl ⊢
  have hl : lv_has ls 1 [(0, .ref (ad k))] := hl
  refine va_gets X.1 X.2.1 X.2.2.2.2.2.2.1.2.2.1 hw.2.2.1 X.2.2.2.1 (X.2.2.2.2.1 _ tw_232) (fun _ h => h) dJ0_coder_7d493_0 ?_
  refine lv_if_eq (tgt := 13) X.1 X.2.1 dJ0_coder_7d493_3 (by decide) (fun hq => absurd hq (by decide)) (fun _ => ?_)
  refine lv_aload_n X.1 X.2.1 dJ0_coder_7d493_6 rfl (lv_at hl 0 rfl) ?_
  refine vk_getf X.1 X.2.1 (X.2.2.2.2.2.2.1.1.1 k hk).2.1 hw.2.2.1 X.2.2.2.1 (X.2.2.2.2.1 _ tw_233) (fun _ h => h) dJ0_coder_7d493_7 ?_
  refine lv_goto (tgt := 14) X.1 X.2.1 dJ0_coder_7d493_10 (by decide) ?_
  exact r_tyret X hw rfl dJ0_coder_7d493_14
theorem hd_J0_coder : yJ0_coder_7d493.cls = RJ0 ∧ yJ0_coder_7d493.cls ≠ "java/lang/invoke/MethodHandle" ∧ yJ0_coder_7d493.cls ≠ "java/lang/invoke/VarHandle" ∧ (parseMethodDescriptor yJ0_coder_7d493.desc).map (fun d => d.parameters.length) = some 0 := by decide +kernel
theorem c_J0_length (hfr : hFr S) (hG : G S) (k : Nat) (hk : k < 9) : hMet l yJ0_length_8abf5 cJ0_length_8abf5 1 (some .int) { frames := 1, cells := 0, slots := 0, locals := 20 } D B cy A ad av ex G [.ref (ad k)] S S (some (.int (nI (hSlen.getD k 0)))) 0 0 := by
  refine h_entry (by decide) hfr hG ?_
  intro p e s m below meth c args X hnm hw
  have hl := lv_entry ([.ref (ad k)]) (n := 1) (Nat.le_of_ble_eq_true rfl)
  rw [lg_entry_eq]
  generalize (lg_sl ([.ref (ad k)]) ++ List.replicate (1 - (lg_sl ([.ref (ad k)])).length) Slot.unset).toArray = ls at hl ⊢
  have hl : lv_has ls 1 [(0, .ref (ad k))] := hl
  refine lv_aload_n X.1 X.2.1 dJ0_length_8abf5_0 rfl (lv_at hl 0 rfl) ?_
  refine vk_getf X.1 X.2.1 (X.2.2.2.2.2.2.1.1.1 k hk).2.2.1 hw.2.2.1 X.2.2.2.1 (X.2.2.2.2.1 _ tw_227) (fun _ h => h) dJ0_length_8abf5_1 ?_
  refine va_tlen X.1 X.2.1 (X.2.2.2.2.2.2.1.1.1 k hk).2.2.2 hw.2.2.1 (v := nI (hSlen.getD k 0)) rfl dJ0_length_8abf5_4 ?_
  refine lv_aload_n X.1 X.2.1 dJ0_length_8abf5_5 rfl (lv_at hl 0 rfl) ?_
  refine r_callO (As := []) (rest := [.int (nI (hSlen.getD k 0))]) (st1 := [.int 0, .int (nI (hSlen.getD k 0))]) (C := RJ0) X hw (c_J0_coder l D B cy A ad av ex G hw.2.2.2.2.1 hw.2.2.2.2.2 k hk) ⟨rfl, rfl, Nat.le_of_ble_eq_true rfl, Nat.le_of_ble_eq_true rfl⟩ (vk_recv X.2.2.2.2.2.2.1.1 hk hw.2.2.1) tw_228 tw_229 tw_230 tw_225 tw_231 hd_J0_coder rfl hl.1 rfl (Nat.le_of_ble_eq_true rfl) dJ0_length_8abf5_6 ⟨Nat.le_of_ble_eq_true rfl, Nat.le_of_ble_eq_true rfl⟩ rfl (fun H locs hw => ?_)
  refine lv_ishr X.1 X.2.1 dJ0_length_8abf5_9 ?_
  rw [sb_shr0]
  exact r_iret X hw dJ0_length_8abf5_10
theorem hd_J0_length : yJ0_length_8abf5.cls = RJ0 ∧ yJ0_length_8abf5.cls ≠ "java/lang/invoke/MethodHandle" ∧ yJ0_length_8abf5.cls ≠ "java/lang/invoke/VarHandle" ∧ (parseMethodDescriptor yJ0_length_8abf5.desc).map (fun d => d.parameters.length) = some 0 := by decide +kernel
theorem c_J0_charAt (hfr : hFr S) (hG : G S) (k : Nat) (hk : k < 9) (i : Int32) (hi : vp_in i (hSlen.getD k 0)) : hMet l yJ0_charAt_5068e cJ0_charAt_5068e 2 (some .char) { frames := 3, cells := 0, slots := 0, locals := 64 } D B cy A ad av ex G [.ref (ad k), .int i] S S (some (.int (hCh k i.toNatClampNeg))) 0 0 := by
  have hlt : i.toNatClampNeg < hSlen.getD k 0 := Nat.not_le.mp fun q => hi (Or.inr q)
  obtain ⟨hc1, hc2⟩ := hSbyt_fit k hk _ hlt
  refine h_entry (by decide) hfr hG ?_
  intro p e s m below meth c args X hnm hw
  have hl := lv_entry ([.ref (ad k), .int i]) (n := 2) (Nat.le_of_ble_eq_true rfl)
  rw [lg_entry_eq]
  generalize (lg_sl ([.ref (ad k), .int i]) ++ List.replicate (2 - (lg_sl ([.ref (ad k), .int i])).length) Slot.unset).toArray = ls at hl ⊢
  have hl : lv_has ls 2 [(0, .ref (ad k)), (1, .int i)] := hl
  refine lv_aload_n X.1 X.2.1 dJ0_charAt_5068e_0 rfl (lv_at hl 0 rfl) ?_
  refine r_callO (As := []) (rest := []) (st1 := [.int 1]) (C := RJ0) X hw (c_J0_isLatin1 l D B cy A ad av ex G hw.2.2.2.2.1 hw.2.2.2.2.2 k hk) ⟨rfl, rfl, Nat.le_of_ble_eq_true rfl, Nat.le_of_ble_eq_true rfl⟩ (vk_recv X.2.2.2.2.2.2.1.1 hk hw.2.2.1) tw_238 tw_239 tw_240 tw_225 tw_241 hd_J0_isLatin1 rfl hl.1 rfl (Nat.le_of_ble_eq_true rfl) dJ0_charAt_5068e_1 ⟨Nat.le_of_ble_eq_true rfl, Nat.le_of_ble_eq_true rfl⟩ rfl (fun H locs hw => ?_)
  refine lv_if_eq (tgt := 16) X.1 X.2.1 dJ0_charAt_5068e_4 (by decide) (fun hq => absurd hq (by decide)) (fun _ => ?_)
  refine lv_aload_n X.1 X.2.1 dJ0_charAt_5068e_7 rfl (lv_at hl 0 rfl) ?_
  refine vk_getf X.1 X.2.1 (X.2.2.2.2.2.2.1.1.1 k hk).2.2.1 hw.2.2.1 X.2.2.2.1 (X.2.2.2.2.1 _ tw_227) (fun _ h => h) dJ0_charAt_5068e_8 ?_
  refine lv_iload_n X.1 X.2.1 dJ0_charAt_5068e_11 rfl (lv_at hl 1 rfl) ?_
  refine r_callS (As := [.ref (av k), .int i]) (rest := []) (st1 := [.int (hCh k i.toNatClampNeg)]) X hw (c_J1_charAt l D B cy A ad av ex G hw.2.2.2.2.1 hw.2.2.2.2.2 k hk i hi) ⟨rfl, rfl, Nat.le_of_ble_eq_true rfl, Nat.le_of_ble_eq_true rfl⟩ tw_242 tw_243 tw_244 tw_245 hd_J1_charAt rfl hl.1 rfl (Nat.le_of_ble_eq_true rfl) dJ0_charAt_5068e_12 ⟨Nat.le_of_ble_eq_true rfl, Nat.le_of_ble_eq_true rfl⟩ rfl (fun H locs hw => ?_)
  exact r_tyret X hw hc2 dJ0_charAt_5068e_15
theorem hd_J0_charAt : yJ0_charAt_5068e.cls = RJ0 ∧ yJ0_charAt_5068e.cls ≠ "java/lang/invoke/MethodHandle" ∧ yJ0_charAt_5068e.cls ≠ "java/lang/invoke/VarHandle" ∧ (parseMethodDescriptor yJ0_charAt_5068e.desc).map (fun d => d.parameters.length) = some 1 := by decide +kernel
end JSTRC
section JSTRR
variable {p : Program} {l : Launch} {e : Env} {R : Room} {s : State} {m : MethodId} {args : Array Value} {below : List Frame} {meth : Method} {c : Code} {H : Heap} {locs : List Loc} {cells slots : Nat} {Q : State → Prop}
variable {cc : ByteArray} {nL : Nat} {ret : Option FieldType} {own : String} {pc : Nat} {ls : Array Slot} {rest : List Value} {D : va_G} {cy : Nat → ClassId} {A : Nat → Prop} {ad av : Nat → Nat} {B : Nat} {ex : Bool} {G : HS → Prop} {S : HS}
theorem r_strlen (X : hCX p s m args meth c own cc nL ret D cy A ad av) (hw : hWd D B cy A ex G S s.heap H locs) (k : Nat) (hk : k < 9) (hsize : ls.size = nL) {idx : Nat} (w1 : Cond.methodLink own idx yJ0_length_8abf5 ∈ wsL_law) (hfr : 2 ≤ R.frames) (hlo : 40 ≤ R.locals) (hWt : (rest.map fun v => v.category).sum ≤ 8) (hcs : cells ≤ R.cells ∧ slots ≤ R.slots) (hd : decode cc pc = .ok (.invokevirtual idx, 3))
    (kk : ∀ (H1 : Heap) (locs1 : List Loc), hWd D B cy A ex G S s.heap H1 locs1 → W p l e R s m args below meth c H1 locs1 cells slots Q (F0 m (pc + 3) ls (.int (nI (hSlen.getD k 0)) :: rest))) : W p l e R s m args below meth c H locs cells slots Q (F0 m pc ls (.ref (ad k) :: rest)) :=
  r_callO (As := []) (rest := rest) (C := RJ0) X hw (c_J0_length l D B cy A ad av ex G hw.2.2.2.2.1 hw.2.2.2.2.2 k hk) ⟨rfl, rfl, hfr, hlo⟩ (vk_recv X.2.2.2.2.2.2.1.1 hk hw.2.2.1) w1 tw_223 tw_224 tw_225 tw_226 hd_J0_length rfl hsize rfl hWt hd hcs rfl kk
theorem r_strchar (X : hCX p s m args meth c own cc nL ret D cy A ad av) (hw : hWd D B cy A ex G S s.heap H locs) (k : Nat) (hk : k < 9) {i : Int32} (hi : vp_in i (hSlen.getD k 0)) (hsize : ls.size = nL) {idx : Nat} (w1 : Cond.methodLink own idx yJ0_charAt_5068e ∈ wsL_law) (hfr : 4 ≤ R.frames) (hlo : 85 ≤ R.locals) (hWt : (rest.map fun v => v.category).sum ≤ 8) (hcs : cells ≤ R.cells ∧ slots ≤ R.slots) (hd : decode cc pc = .ok (.invokevirtual idx, 3))
    (kk : ∀ (H1 : Heap) (locs1 : List Loc), hWd D B cy A ex G S s.heap H1 locs1 → W p l e R s m args below meth c H1 locs1 cells slots Q (F0 m (pc + 3) ls (.int (hCh k i.toNatClampNeg) :: rest))) : W p l e R s m args below meth c H locs cells slots Q (F0 m pc ls (.int i :: .ref (ad k) :: rest)) :=
  r_callO (As := [.int i]) (rest := rest) (C := RJ0) X hw (c_J0_charAt l D B cy A ad av ex G hw.2.2.2.2.1 hw.2.2.2.2.2 k hk i hi) ⟨rfl, rfl, hfr, hlo⟩ (vk_recv X.2.2.2.2.2.2.1.1 hk hw.2.2.1) w1 tw_235 tw_236 tw_225 tw_237 hd_J0_charAt rfl hsize rfl hWt hd hcs rfl kk
end JSTRR
