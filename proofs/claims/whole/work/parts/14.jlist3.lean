/-! ArrayList's own methods that make or write, Arrays.copyOf -/
theorem hd_J8_newLength : yJ8_newLength_cabcc.cls ≠ "java/lang/invoke/MethodHandle" ∧ yJ8_newLength_cabcc.cls ≠ "java/lang/invoke/VarHandle" ∧ (parseMethodDescriptor yJ8_newLength_cabcc.desc).map (fun d => d.parameters.length) = some 3 := by decide +kernel
theorem hd_J7_copyOf3 : yJ7_copyOf_6403c.cls ≠ "java/lang/invoke/MethodHandle" ∧ yJ7_copyOf_6403c.cls ≠ "java/lang/invoke/VarHandle" ∧ (parseMethodDescriptor yJ7_copyOf_6403c.desc).map (fun d => d.parameters.length) = some 3 := by decide +kernel
theorem hd_J7_copyOf2 : yJ7_copyOf_1904c.cls ≠ "java/lang/invoke/MethodHandle" ∧ yJ7_copyOf_1904c.cls ≠ "java/lang/invoke/VarHandle" ∧ (parseMethodDescriptor yJ7_copyOf_1904c.desc).map (fun d => d.parameters.length) = some 2 := by decide +kernel
theorem hd_Jl_growI : yJx4a65c_grow_92f84.cls = RJx4a65c ∧ yJx4a65c_grow_92f84.cls ≠ "java/lang/invoke/MethodHandle" ∧ yJx4a65c_grow_92f84.cls ≠ "java/lang/invoke/VarHandle" ∧ (parseMethodDescriptor yJx4a65c_grow_92f84.desc).map (fun d => d.parameters.length) = some 1 := by decide +kernel
theorem hd_Jl_grow : yJx4a65c_grow_d5877.cls = RJx4a65c ∧ yJx4a65c_grow_d5877.cls ≠ "java/lang/invoke/MethodHandle" ∧ yJx4a65c_grow_d5877.cls ≠ "java/lang/invoke/VarHandle" ∧ (parseMethodDescriptor yJx4a65c_grow_d5877.desc).map (fun d => d.parameters.length) = some 0 := by decide +kernel
theorem hd_Jl_add3 : yJx4a65c_add_72be8.cls = RJx4a65c ∧ yJx4a65c_add_72be8.cls ≠ "java/lang/invoke/MethodHandle" ∧ yJx4a65c_add_72be8.cls ≠ "java/lang/invoke/VarHandle" ∧ (parseMethodDescriptor yJx4a65c_add_72be8.desc).map (fun d => d.parameters.length) = some 3 := by decide +kernel
theorem hd_Jl_add : yJx4a65c_add_9ea2d.cls = RJx4a65c ∧ yJx4a65c_add_9ea2d.cls ≠ "java/lang/invoke/MethodHandle" ∧ yJx4a65c_add_9ea2d.cls ≠ "java/lang/invoke/VarHandle" ∧ (parseMethodDescriptor yJx4a65c_add_9ea2d.desc).map (fun d => d.parameters.length) = some 1 := by decide +kernel
theorem hd_Jl_addAt : yJx4a65c_add_7a177.cls = RJx4a65c ∧ yJx4a65c_add_7a177.cls ≠ "java/lang/invoke/MethodHandle" ∧ yJx4a65c_add_7a177.cls ≠ "java/lang/invoke/VarHandle" ∧ (parseMethodDescriptor yJx4a65c_add_7a177.desc).map (fun d => d.parameters.length) = some 2 := by decide +kernel
theorem hd_Jl_range : yJx4a65c_rangeCheckForAdd_d00df.cls = RJx4a65c ∧ yJx4a65c_rangeCheckForAdd_d00df.cls ≠ "java/lang/invoke/MethodHandle" ∧ yJx4a65c_rangeCheckForAdd_d00df.cls ≠ "java/lang/invoke/VarHandle" ∧ (parseMethodDescriptor yJx4a65c_rangeCheckForAdd_d00df.desc).map (fun d => d.parameters.length) = some 1 := by decide +kernel
theorem hd_Jl_init : yJx4a65c_init_da8c8.cls ≠ "java/lang/invoke/MethodHandle" ∧ yJx4a65c_init_da8c8.cls ≠ "java/lang/invoke/VarHandle" ∧ (parseMethodDescriptor yJx4a65c_init_da8c8.desc).map (fun d => d.parameters.length) = some 0 := by decide +kernel
theorem hd_Jal_init : yJxc12de_init_da8c8.cls ≠ "java/lang/invoke/MethodHandle" ∧ yJxc12de_init_da8c8.cls ≠ "java/lang/invoke/VarHandle" ∧ (parseMethodDescriptor yJxc12de_init_da8c8.desc).map (fun d => d.parameters.length) = some 0 := by decide +kernel
theorem hd_Jac_init : yJxa1e45_init_da8c8.cls ≠ "java/lang/invoke/MethodHandle" ∧ yJxa1e45_init_da8c8.cls ≠ "java/lang/invoke/VarHandle" ∧ (parseMethodDescriptor yJxa1e45_init_da8c8.desc).map (fun d => d.parameters.length) = some 0 := by decide +kernel
theorem grow_num {n : Nat} (h2 : 2 ≤ n) (hn : n ≤ 10000) : nI n + jmax (nI n + 1 - nI n) (nI n >>> ((1 : Int32) &&& 31)) = nI (n + n / 2) := by
  have es : nI n >>> ((1 : Int32) &&& 31) = nI (n / 2) := by
    have k := pk_shrN (n := n) (by omega) ((1 : Int32) &&& 31) 1 (by decide)
    rw [Nat.pow_one] at k
    exact k
  have ed : nI n + 1 - nI n = nI 1 := by
    rw [nI_1]
    have k := pk_sub (a := n + 1) (b := n) (by omega)
    rw [Nat.add_sub_cancel_left] at k
    exact k
  rw [es, ed]
  unfold jmax
  by_cases h : nI 1 < nI (n / 2)
  · rw [if_pos h, nI_add]
  · rw [if_neg h, nI_add]
    have h1 : ¬ 1 < n / 2 := fun q => h (nI_lt q (by omega))
    rw [show n / 2 = 1 by omega]
theorem fresh_ne {S : HS} (hfr : hFr S) {d κ : Nat} (hk : gK S d = κ) (h : κ ≠ 99) : d ≠ gZ S := by
  intro e
  have := hfr d (by omega)
  omega
theorem aC_eq {S : HS} (hfr : hFr S) {d n : Nat} (hk : gK S d = 25) : sRf (aN S 25 n) (gZ S) (va_cpy (gR (aN S 25 n) d) (gR (aN S 25 n) (gZ S)) 0 0 (gN S d)) = aC S d n := by
  have hne := fresh_ne hfr hk (by omega)
  unfold aC
  congr 1
  funext j
  unfold va_cpy
  rw [gR_aN, gR_aN, if_neg hne, if_pos rfl]
  by_cases hj : j < gN S d
  · rw [if_pos ⟨Nat.zero_le _, by omega⟩, if_pos hj]
    congr 1
    omega
  · rw [if_neg (by omega), if_neg hj]
theorem hEl_aN {S : HS} (hfr : hFr S) {d κ n : Nat} (hk : gK S d = 25) (h : hEl S d) : hEl (aN S κ n) d := by
  have hne := fresh_ne hfr hk (by omega)
  intro j hj y hy
  rw [gN_aN, if_neg hne] at hj
  rw [gR_aN, if_neg hne] at hy
  rw [gK_aN]
  have h1 := h j hj y hy
  have hy2 : y ≠ gZ S := by
    intro e
    have := hfr y (by omega)
    omega
  rw [if_neg hy2]
  exact h1
section JL3
variable (l : Launch) (D : va_G) (B : Nat) (cy : Nat → ClassId) (A : Nat → Prop) (ad av : Nat → Nat)
theorem c_Jac_init (ex : Bool) (G : HS → Prop) (a : Nat) {S : HS} (hfr : hFr S) (hG : G S) : hMet l yJxa1e45_init_da8c8 cJxa1e45_init_da8c8 1 none { frames := 1, cells := 0, slots := 0, locals := 12 } D B cy A ad av ex G [.ref a] S S none 0 0 := by
  refine h_entry (by decide) hfr hG ?_
  intro p e s m below meth c args X hnm hw
  have hl := lv_entry ([.ref a]) (n := 1) (Nat.le_of_ble_eq_true rfl)
  rw [lg_entry_eq]
  generalize (lg_sl ([.ref a]) ++ List.replicate (1 - (lg_sl ([.ref a])).length) Slot.unset).toArray = ls at hl ⊢
  have hl : lv_has ls 1 [(0, .ref a)] := hl
  refine lv_aload_n X.1 X.2.1 dJxa1e45_init_da8c8_0 rfl (lv_at hl 0 rfl) ?_
  refine r_objInit X tw_65 hl.1 (by decide) (by decide) dJxa1e45_init_da8c8_1 ?_
  exact r_vret X hw dJxa1e45_init_da8c8_4
theorem c_Jal_init (ex : Bool) (G : HS → Prop) (c0 : Nat) {S : HS} (hfr : hFr S) (hG : G S) (hκ : gK S c0 = 11) (hG1 : G (sI S c0 0 0)) : hMet l yJxc12de_init_da8c8 cJxc12de_init_da8c8 1 none { frames := 2, cells := 0, slots := 0, locals := 32 } D B cy A ad av ex G [.ref (B + c0)] S (sI S c0 0 0) none 0 0 := by
  refine h_entry (by decide) hfr hG ?_
  intro p e s m below meth c args X hnm hw
  have hl := lv_entry ([.ref (B + c0)]) (n := 1) (Nat.le_of_ble_eq_true rfl)
  rw [lg_entry_eq]
  generalize (lg_sl ([.ref (B + c0)]) ++ List.replicate (1 - (lg_sl ([.ref (B + c0)])).length) Slot.unset).toArray = ls at hl ⊢
  have hl : lv_has ls 1 [(0, .ref (B + c0))] := hl
  refine lv_aload_n X.1 X.2.1 dJxc12de_init_da8c8_0 rfl (lv_at hl 0 rfl) ?_
  refine r_callI (As := []) (rest := []) (st1 := []) X hw (c_Jac_init l D B cy A ad av ex G (B + c0) hw.2.2.2.2.1 hw.2.2.2.2.2) ⟨rfl, rfl, Nat.le_of_ble_eq_true rfl, Nat.le_of_ble_eq_true rfl⟩ tw_61 tw_62 tw_63 tw_64 rfl hd_Jac_init rfl hl.1 rfl (Nat.le_of_ble_eq_true rfl) dJxc12de_init_da8c8_1 ⟨Nat.le_of_ble_eq_true rfl, Nat.le_of_ble_eq_true rfl⟩ rfl (fun H locs hw => ?_)
  refine lv_aload_n X.1 X.2.1 dJxc12de_init_da8c8_4 rfl (lv_at hl 0 rfl) ?_
  refine lv_iconst (v := 0) X.1 X.2.1 dJxc12de_init_da8c8_5 (by decide) ?_
  refine r_putI X hw (κ := 11) rfl inlJx4a65c tyJx4a65c tyJx4a65c_ok nmJx4a65c 0 (by decide) rfl (by decide) tw_60 (Or.inl rfl) hκ rfl rfl hG1 dJxc12de_init_da8c8_6 (fun H locs hw => ?_)
  exact r_vret X hw dJxc12de_init_da8c8_9
theorem c_Jl_init (ex : Bool) (G : HS → Prop) (h99 : cy 99 = ad 9) (c0 : Nat) {S Z : HS} (hfr : hFr S) (hG : G S) (hG1 : G (sI S c0 0 0)) (hG2 : G (sK (sI S c0 0 0) c0 0)) (hf : fl_init c0 S = some Z) : hMet l yJx4a65c_init_da8c8 cJx4a65c_init_da8c8 1 none { frames := 3, cells := 0, slots := 0, locals := 52 } D B cy A ad av ex G [.ref (B + c0)] S Z none 0 0 := by
  obtain ⟨⟨hκ, hn0⟩, hf⟩ := gd_ok hf
  cases hf
  refine h_entry (by decide) hfr hG ?_
  intro p e s m below meth c args X hnm hw
  have hl := lv_entry ([.ref (B + c0)]) (n := 1) (Nat.le_of_ble_eq_true rfl)
  rw [lg_entry_eq]
  generalize (lg_sl ([.ref (B + c0)]) ++ List.replicate (1 - (lg_sl ([.ref (B + c0)])).length) Slot.unset).toArray = ls at hl ⊢
  have hl : lv_has ls 1 [(0, .ref (B + c0))] := hl
  refine lv_aload_n X.1 X.2.1 dJx4a65c_init_da8c8_0 rfl (lv_at hl 0 rfl) ?_
  refine r_callI (As := []) (rest := []) (st1 := []) X hw (c_Jal_init l D B cy A ad av ex G c0 hw.2.2.2.2.1 hw.2.2.2.2.2 hκ hG1) ⟨rfl, rfl, Nat.le_of_ble_eq_true rfl, Nat.le_of_ble_eq_true rfl⟩ tw_56 tw_57 tw_58 tw_59 rfl hd_Jal_init rfl hl.1 rfl (Nat.le_of_ble_eq_true rfl) dJx4a65c_init_da8c8_1 ⟨Nat.le_of_ble_eq_true rfl, Nat.le_of_ble_eq_true rfl⟩ rfl (fun H locs hw => ?_)
  refine lv_aload_n X.1 X.2.1 dJx4a65c_init_da8c8_4 rfl (lv_at hl 0 rfl) ?_
  refine va_gets X.1 X.2.1 X.2.2.2.2.2.2.1.2.2.2.2.1 hw.2.2.1 X.2.2.2.1 (X.2.2.2.2.1 _ tw_54) (fun _ h => h) dJx4a65c_init_da8c8_5 ?_
  rw [← h99]
  refine r_putE X hw tw_55 (S := sI S c0 0 0) hκ hn0 hG2 dJx4a65c_init_da8c8_8 (fun H locs hw => ?_)
  exact r_vret X hw dJx4a65c_init_da8c8_11
theorem c_J8_newLength (ex : Bool) (G : HS → Prop) (x y z : Int32) {S : HS} (hfr : hFr S) (hG : G S) (h1 : ¬ x + jmax y z ≤ 0) (h2 : ¬ 2147483639 < x + jmax y z) : hMet l yJ8_newLength_cabcc cJ8_newLength_cabcc 4 (some .int) { frames := 1, cells := 0, slots := 0, locals := 21 } D B cy A ad av ex G [.int x, .int y, .int z] S S (some (.int (x + jmax y z))) 0 0 := by
  refine h_entry (by decide) hfr hG ?_
  intro p e s m below meth c args X hnm hw
  have hl := lv_entry ([.int x, .int y, .int z]) (n := 4) (Nat.le_of_ble_eq_true rfl)
  rw [lg_entry_eq]
  generalize (lg_sl ([.int x, .int y, .int z]) ++ List.replicate (4 - (lg_sl ([.int x, .int y, .int z])).length) Slot.unset).toArray = ls at hl ⊢
  have hl : lv_has ls 4 [(0, .int x), (1, .int y), (2, .int z)] := hl
  refine lv_iload_n X.1 X.2.1 dJ8_newLength_cabcc_0 rfl (lv_at hl 0 rfl) ?_
  refine lv_iload_n X.1 X.2.1 dJ8_newLength_cabcc_1 rfl (lv_at hl 1 rfl) ?_
  refine lv_iload_n X.1 X.2.1 dJ8_newLength_cabcc_2 rfl (lv_at hl 2 rfl) ?_
  refine r_mmax X hl.1 tw_382 (by decide) (Nat.le_of_ble_eq_true rfl) (by decide) (by decide) dJ8_newLength_cabcc_3 ?_
  refine lv_iadd X.1 X.2.1 dJ8_newLength_cabcc_6 ?_
  refine lv_istore_n (lv' := [(3, .int (x + jmax y z)), (0, .int x), (1, .int y), (2, .int z)]) X.1 X.2.1 dJ8_newLength_cabcc_7 rfl hl (by decide) rfl (fun ls hl => ?_)
  refine lv_iconst (v := 0) X.1 X.2.1 dJ8_newLength_cabcc_8 (by decide) ?_
  refine lv_iload_n X.1 X.2.1 dJ8_newLength_cabcc_9 rfl (lv_at hl 0 rfl) ?_
  refine lv_icmp_ge (tgt := 21) X.1 X.2.1 dJ8_newLength_cabcc_10 (by decide) (fun hq => absurd hq h1) (fun _ => ?_)
  refine lv_iload_n X.1 X.2.1 dJ8_newLength_cabcc_13 rfl (lv_at hl 0 rfl) ?_
  refine lv_ldc X.1 X.2.1 X.2.2.2.1 (X.2.2.2.2.1 _ tw_383) dJ8_newLength_cabcc_14 ?_
  refine lv_icmp_gt (tgt := 21) X.1 X.2.1 dJ8_newLength_cabcc_16 (by decide) (fun hq => absurd hq h2) (fun _ => ?_)
  refine lv_iload_n X.1 X.2.1 dJ8_newLength_cabcc_19 rfl (lv_at hl 0 rfl) ?_
  exact r_iret X hw dJ8_newLength_cabcc_20
theorem c_J7_copyOf3 (hA : ∀ c, 65 ≤ c → A (B + c)) (d n : Nat) {S : HS} (hfr : hFr S) (hG : hC S) (hκ : gK S d = 25) (hn : gN S d ≤ n) (hn2 : n ≤ 10000) (hel : hEl S d) : hMet l yJ7_copyOf_6403c cJ7_copyOf_6403c 4 (some (.array (.object "java/lang/Object"))) { frames := 1, cells := 1, slots := n, locals := 30 } D B cy A ad av true hC [.ref (B + d), .int (nI n), .ref (ad 10)] S (aC S d n) (some (va_rf ((some (gZ S)).map (B + ·)))) 1 n := by
  refine h_entry (by decide) hfr hG ?_
  intro p e s m below meth c args X hnm hw
  have hl := lv_entry ([.ref (B + d), .int (nI n), .ref (ad 10)]) (n := 4) (Nat.le_of_ble_eq_true rfl)
  rw [lg_entry_eq]
  generalize (lg_sl ([.ref (B + d), .int (nI n), .ref (ad 10)]) ++ List.replicate (4 - (lg_sl ([.ref (B + d), .int (nI n), .ref (ad 10)])).length) Slot.unset).toArray = ls at hl ⊢
  have hl : lv_has ls 4 [(0, .ref (B + d)), (1, .int (nI n)), (2, .ref (ad 10))] := hl
  refine lv_aload_n X.1 X.2.1 dJ7_copyOf_6403c_0 rfl (lv_at hl 2 rfl) ?_
  refine va_ldcM X.1 X.2.1 X.2.2.2.1 (X.2.2.2.2.1 _ tw_398) X.2.2.2.2.2.2.1.2.2.2.2.2.2.2.1 dJ7_copyOf_6403c_1 ?_
  refine lv_acmp_ne (rx := some (ad 10)) (ry := some (ad 10)) (tgt := 13) X.1 X.2.1 dJ7_copyOf_6403c_3 (by decide) (fun hq => absurd rfl hq) (fun _ => ?_)
  refine lv_iload_n X.1 X.2.1 dJ7_copyOf_6403c_6 rfl (lv_at hl 1 rfl) ?_
  refine r_newq (κ := 25) X hw (Or.inr ⟨rfl, rfl⟩) tw_399 (nI_pos (by omega)) (nI_clamp (by omega)) (by omega) (hA _ hG.1) (hC_aN hG 25 n) (Nat.le_refl 1) (by show 0 + n ≤ n; omega) dJ7_copyOf_6403c_7 (fun H hw => ?_)
  refine lv_goto (tgt := 24) X.1 X.2.1 dJ7_copyOf_6403c_10 (by decide) ?_
  refine lv_astore_n (lv' := [(3, .ref (B + gZ S)), (0, .ref (B + d)), (1, .int (nI n)), (2, .ref (ad 10))]) X.1 X.2.1 dJ7_copyOf_6403c_24 rfl hl (by decide) rfl (fun ls hl => ?_)
  have hne := fresh_ne hfr hκ (by omega)
  have hκ1 : gK (aN S 25 n) d = 25 := by rw [gK_aN, if_neg hne]; exact hκ
  have hκ2 : gK (aN S 25 n) (gZ S) = 25 := by rw [gK_aN, if_pos rfl]
  have hN1 : gN (aN S 25 n) d = gN S d := by rw [gN_aN, if_neg hne]
  have hN2 : gN (aN S 25 n) (gZ S) = n := by rw [gN_aN, if_pos rfl]
  have hmin : jmin (nI (gN S d)) (nI n) = nI (gN S d) := by
    unfold jmin
    rw [if_neg (nI_nlt hn (by omega))]
  refine lv_aload_n X.1 X.2.1 dJ7_copyOf_6403c_25 rfl (lv_at hl 1 rfl) ?_
  refine lv_iconst (v := 0) X.1 X.2.1 dJ7_copyOf_6403c_26 (by decide) ?_
  refine lv_aload_n X.1 X.2.1 dJ7_copyOf_6403c_27 rfl (lv_at hl 0 rfl) ?_
  refine lv_iconst (v := 0) X.1 X.2.1 dJ7_copyOf_6403c_28 (by decide) ?_
  refine lv_aload_n X.1 X.2.1 dJ7_copyOf_6403c_29 rfl (lv_at hl 1 rfl) ?_
  refine r_alen (κ := 25) X hw hκ1 (by decide) hN1 dJ7_copyOf_6403c_30 ?_
  refine lv_iload_n X.1 X.2.1 dJ7_copyOf_6403c_31 rfl (lv_at hl 2 rfl) ?_
  refine r_mmin X hl.1 tw_400 (by show 1 ≤ 1; omega) (Nat.le_of_ble_eq_true rfl) (by show 0 + 1 ≤ 1; omega) (by show 0 + n ≤ n; omega) dJ7_copyOf_6403c_32 ?_
  rw [hmin]
  have hcl : (nI (gN S d)).toNatClampNeg = gN S d := nI_clamp (by omega)
  have h00 : (0 : Int32).toNatClampNeg = 0 := rfl
  have haC : sRf (aN S 25 n) (gZ S) (va_cpy (gR (aN S 25 n) d) (gR (aN S 25 n) (gZ S)) (0 : Int32).toNatClampNeg (0 : Int32).toNatClampNeg (nI (gN S d)).toNatClampNeg) = aC S d n := by
    rw [hcl, h00]
    exact aC_eq hfr hκ
  refine r_copy (d0 := d) (d1 := gZ S) X hw hl.1 tw_401 hκ1 hκ2 (by decide) (by decide) (nI_pos (by omega)) (by rw [hcl, h00, hN1]; omega) (by rw [hcl, h00, hN2]; omega) (hEl_aN hfr hκ hel) (hC_sRf (hC_aN hG 25 n) hκ2 (by decide)) (by show 1 ≤ 1; omega) (Nat.le_of_ble_eq_true rfl) dJ7_copyOf_6403c_35 (fun H locs hw => ?_)
  rw [haC] at hw
  refine lv_aload_n X.1 X.2.1 dJ7_copyOf_6403c_38 rfl (lv_at hl 0 rfl) ?_
  refine W.widen (k := 1) (n := n) (by omega) (by omega) ?_
  exact r_aret (v := some (gZ S)) X (Or.inr ⟨_, rfl⟩) hw dJ7_copyOf_6403c_39
theorem c_J7_copyOf2 (hA : ∀ c, 65 ≤ c → A (B + c)) (d n : Nat) {S : HS} (hfr : hFr S) (hG : hC S) (hκ : gK S d = 25) (hn : gN S d ≤ n) (hn2 : n ≤ 10000) (hel : hEl S d) : hMet l yJ7_copyOf_1904c cJ7_copyOf_1904c 2 (some (.array (.object "java/lang/Object"))) { frames := 2, cells := 1, slots := n, locals := 53 } D B cy A ad av true hC [.ref (B + d), .int (nI n)] S (aC S d n) (some (va_rf ((some (gZ S)).map (B + ·)))) 1 n := by
  refine h_entry (by decide) hfr hG ?_
  intro p e s m below meth c args X hnm hw
  have hl := lv_entry ([.ref (B + d), .int (nI n)]) (n := 2) (Nat.le_of_ble_eq_true rfl)
  rw [lg_entry_eq]
  generalize (lg_sl ([.ref (B + d), .int (nI n)]) ++ List.replicate (2 - (lg_sl ([.ref (B + d), .int (nI n)])).length) Slot.unset).toArray = ls at hl ⊢
  have hl : lv_has ls 2 [(0, .ref (B + d)), (1, .int (nI n))] := hl
  have hrec : ∃ cell : Cell, s.heap[B + d]? = some cell ∧ cell.vm.isStatics = false ∧ s.vm.findClass "[Ljava/lang/Object;" = some cell.cls := by
    obtain ⟨q0, hq⟩ := hWs_get (B := B) (cy := cy) (hFr_in hfr hκ (by omega))
    rw [hEn_ref hκ (by omega)] at hq
    obtain ⟨kA, comp, r1, r2, r3, r4⟩ := (X.2.2.2.2.2.1.2 5 _ rfl).2
    exact ⟨_, hw.1 q0 _ hq, rfl, r4⟩
  refine lv_aload_n X.1 X.2.1 dJ7_copyOf_1904c_0 rfl (lv_at hl 0 rfl) ?_
  refine lv_iload_n X.1 X.2.1 dJ7_copyOf_1904c_1 rfl (lv_at hl 1 rfl) ?_
  refine lv_aload_n X.1 X.2.1 dJ7_copyOf_1904c_2 rfl (lv_at hl 0 rfl) ?_
  refine va_getC X.1 X.2.1 (X.2.2.1.trans hl.1.symm) X.2.2.2.1 (X.2.2.2.2.1 _ tw_391) (va_Dc.use X.2.2.2.2.2.2.1.2.2.2.2.2.2.2.2.2.2.2.2.2.2.2) (X.2.2.2.2.1 _ tw_392) (X.2.2.2.2.1 _ tw_393) (X.2.2.2.2.1 _ tw_394) X.2.2.2.2.2.2.1.2.2.2.2.2.2.2.1 hrec (by show 1 ≤ 2; omega) (Nat.le_of_ble_eq_true rfl) dJ7_copyOf_1904c_3 ?_
  refine r_callS (As := [.ref (B + d), .int (nI n), .ref (ad 10)]) (rest := []) (st1 := [va_rf ((some (gZ S)).map (B + ·))]) X hw (c_J7_copyOf3 l D B cy A ad av hA d n hfr hG hκ hn hn2 hel) ⟨rfl, rfl, by show 1 + 1 ≤ 2; omega, Nat.le_of_ble_eq_true rfl⟩ tw_395 tw_396 tw_389 tw_397 hd_J7_copyOf3 rfl hl.1 rfl (Nat.le_of_ble_eq_true rfl) dJ7_copyOf_1904c_6 ⟨Nat.le_refl _, by show 0 + n ≤ n; omega⟩ rfl (fun H locs hw => ?_)
  refine W.widen (k := 1) (n := n) (by omega) (by omega) ?_
  exact r_aret (v := some (gZ S)) X (Or.inr ⟨_, rfl⟩) hw dJ7_copyOf_1904c_9
theorem c_Jl_growI (hA : ∀ c, 65 ≤ c → A (B + c)) (h99 : cy 99 = ad 9) (c0 M : Nat) {S Z : HS} {z : Nat} (hfr : hFr S) (hG : hC S) (hf : fl_grow c0 M S = some (z, Z)) : hMet l yJx4a65c_grow_92f84 cJx4a65c_grow_92f84 4 (some (.array (.object "java/lang/Object"))) { frames := 3, cells := 1, slots := M, locals := 74 } D B cy A ad av true hC [.ref (B + c0), .int (gI S c0 2 + 1)] S Z (some (va_rf ((some z).map (B + ·)))) 1 M := by
  obtain ⟨⟨hκ, hM⟩, hf⟩ := gd_ok hf
  refine h_entry (by decide) hfr hG ?_
  intro p e s m below meth c args X hnm hw
  have hl := lv_entry ([.ref (B + c0), .int (gI S c0 2 + 1)]) (n := 4) (Nat.le_of_ble_eq_true rfl)
  rw [lg_entry_eq]
  generalize (lg_sl ([.ref (B + c0), .int (gI S c0 2 + 1)]) ++ List.replicate (4 - (lg_sl ([.ref (B + c0), .int (gI S c0 2 + 1)])).length) Slot.unset).toArray = ls at hl ⊢
  have hl : lv_has ls 4 [(0, .ref (B + c0)), (1, .int (gI S c0 2 + 1))] := hl
  refine lv_aload_n X.1 X.2.1 dJx4a65c_grow_92f84_0 rfl (lv_at hl 0 rfl) ?_
  refine r_getD X hw tw_55 hκ dJx4a65c_grow_92f84_1 ?_
  cases hr : gR S c0 1 with
  | none =>
    replace hf := cs_nk hr hf
    obtain ⟨hs0, hf⟩ := gd_ok hf
    cases hf
    have hmax : jmax 10 (gI S c0 2 + 1) = 10 := by rw [hs0]; decide
    show W _ _ _ _ _ _ _ _ _ _ _ _ _ _ _ (F0 m 4 ls [.ref (cy 99)])
    rw [h99]
    refine va_tlen X.1 X.2.1 X.2.2.2.2.2.2.1.2.2.2.2.2.1 hw.2.2.1 (v := 0) rfl dJx4a65c_grow_92f84_4 ?_
    refine lv_istore_n (lv' := [(2, .int 0), (0, .ref (B + c0)), (1, .int (gI S c0 2 + 1))]) X.1 X.2.1 dJx4a65c_grow_92f84_5 rfl hl (by decide) rfl (fun ls hl => ?_)
    refine lv_iload_n X.1 X.2.1 dJx4a65c_grow_92f84_6 rfl (lv_at hl 0 rfl) ?_
    refine lv_if_gt (tgt := 20) X.1 X.2.1 dJx4a65c_grow_92f84_7 (by decide) (fun hq => absurd hq (by decide)) (fun _ => ?_)
    refine lv_aload_n X.1 X.2.1 dJx4a65c_grow_92f84_10 rfl (lv_at hl 1 rfl) ?_
    refine r_getD X hw tw_55 hκ dJx4a65c_grow_92f84_11 ?_
    rw [hr]
    show W _ _ _ _ _ _ _ _ _ _ _ _ _ _ _ (F0 m 14 ls [.ref (cy 99)])
    rw [h99]
    refine va_gets X.1 X.2.1 X.2.2.2.2.2.2.1.2.2.2.2.1 hw.2.2.1 X.2.2.2.1 (X.2.2.2.2.1 _ tw_54) (fun _ h => h) dJx4a65c_grow_92f84_14 ?_
    refine lv_acmp_eq (rx := some (ad 9)) (ry := some (ad 9)) (tgt := 45) X.1 X.2.1 dJx4a65c_grow_92f84_17 (by decide) (fun _ => ?_) (fun hq => absurd rfl hq)
    refine lv_aload_n X.1 X.2.1 dJx4a65c_grow_92f84_45 rfl (lv_at hl 1 rfl) ?_
    refine lv_bipush (v := 10) X.1 X.2.1 dJx4a65c_grow_92f84_46 (by decide) ?_
    refine lv_iload_n X.1 X.2.1 dJx4a65c_grow_92f84_48 rfl (lv_at hl 2 rfl) ?_
    refine r_mmax X hl.1 tw_376 (by show 1 ≤ 3; omega) (Nat.le_of_ble_eq_true rfl) (by show 0 ≤ 1; omega) (by show 0 ≤ M; omega) dJx4a65c_grow_92f84_49 ?_
    rw [hmax]
    refine r_newq (κ := 25) (N := 10) X hw (Or.inr ⟨rfl, rfl⟩) tw_377 (by decide) rfl (by omega) (hA _ hG.1) (hC_aN hG 25 10) (Nat.le_refl 1) (by show 0 + 10 ≤ M; omega) dJx4a65c_grow_92f84_52 (fun H hw => ?_)
    refine lv_dup_x1 X.1 X.2.1 dJx4a65c_grow_92f84_55 rfl rfl ?_
    have hne := fresh_ne hfr hκ (by omega)
    have hκ1 : gK (aN S 25 10) c0 = 0 := by rw [gK_aN, if_neg hne]; exact hκ
    refine r_putD (z := gZ S) X hw tw_55 hκ1 (hC_sR (hC_aN hG 25 10) hκ1 (by decide)) dJx4a65c_grow_92f84_56 (fun H locs hw => ?_)
    refine W.widen (k := 1) (n := M) (by omega) (by omega) ?_
    exact r_aret (v := some (gZ S)) X (Or.inr ⟨_, rfl⟩) hw dJx4a65c_grow_92f84_59
  | some d =>
    replace hf := cs_sk hr hf
    obtain ⟨⟨hκ2, h2, h3, h4, hs, hel⟩, hf⟩ := gd_ok hf
    cases hf
    show W _ _ _ _ _ _ _ _ _ _ _ _ _ _ _ (F0 m 4 ls [.ref (B + d)])
    refine r_alen (κ := 25) X hw hκ2 (by decide) rfl dJx4a65c_grow_92f84_4 ?_
    refine lv_istore_n (lv' := [(2, .int (nI (gN S d))), (0, .ref (B + c0)), (1, .int (gI S c0 2 + 1))]) X.1 X.2.1 dJx4a65c_grow_92f84_5 rfl hl (by decide) rfl (fun ls hl => ?_)
    refine lv_iload_n X.1 X.2.1 dJx4a65c_grow_92f84_6 rfl (lv_at hl 0 rfl) ?_
    have hpos : 0 < nI (gN S d) := by
      have := nI_lt (a := 0) (b := gN S d) (by omega) (by omega)
      rw [nI_0] at this
      exact this
    refine lv_if_gt (tgt := 20) X.1 X.2.1 dJx4a65c_grow_92f84_7 (by decide) (fun _ => ?_) (fun hq => absurd hpos hq)
    refine lv_iload_n X.1 X.2.1 dJx4a65c_grow_92f84_20 rfl (lv_at hl 0 rfl) ?_
    refine lv_iload_n X.1 X.2.1 dJx4a65c_grow_92f84_21 rfl (lv_at hl 2 rfl) ?_
    refine lv_iload_n X.1 X.2.1 dJx4a65c_grow_92f84_22 rfl (lv_at hl 0 rfl) ?_
    refine lv_isub X.1 X.2.1 dJx4a65c_grow_92f84_23 ?_
    refine lv_iload_n X.1 X.2.1 dJx4a65c_grow_92f84_24 rfl (lv_at hl 0 rfl) ?_
    refine lv_iconst (v := 1) X.1 X.2.1 dJx4a65c_grow_92f84_25 (by decide) ?_
    refine lv_ishr X.1 X.2.1 dJx4a65c_grow_92f84_26 ?_
    have hnum : nI (gN S d) + jmax (gI S c0 2 + 1 - nI (gN S d)) (nI (gN S d) >>> ((1 : Int32) &&& 31)) = nI (gN S d + gN S d / 2) := by
      rw [hs]
      exact grow_num h2 (by omega)
    refine r_callS (As := [.int (nI (gN S d)), .int (gI S c0 2 + 1 - nI (gN S d)), .int (nI (gN S d) >>> ((1 : Int32) &&& 31))]) (rest := []) (st1 := [.int (nI (gN S d) + jmax (gI S c0 2 + 1 - nI (gN S d)) (nI (gN S d) >>> ((1 : Int32) &&& 31)))]) X hw (c_J8_newLength l D B cy A ad av true hC _ _ _ hfr hG (by rw [hnum]; exact nI_nle (by omega) (by omega)) (by rw [hnum]; exact (show ¬ nI 2147483639 < nI (gN S d + gN S d / 2) from nI_nlt (by omega) (by omega)))) ⟨rfl, rfl, Nat.le_of_ble_eq_true rfl, Nat.le_of_ble_eq_true rfl⟩ tw_378 tw_379 tw_380 tw_381 hd_J8_newLength rfl hl.1 rfl (Nat.le_of_ble_eq_true rfl) dJx4a65c_grow_92f84_27 ⟨Nat.zero_le _, Nat.zero_le _⟩ rfl (fun H locs hw => ?_)
    rw [hnum]
    refine lv_istore_n (lv' := [(3, .int (nI (gN S d + gN S d / 2))), (2, .int (nI (gN S d))), (0, .ref (B + c0)), (1, .int (gI S c0 2 + 1))]) X.1 X.2.1 dJx4a65c_grow_92f84_30 rfl hl (by decide) rfl (fun ls hl => ?_)
    refine lv_aload_n X.1 X.2.1 dJx4a65c_grow_92f84_31 rfl (lv_at hl 2 rfl) ?_
    refine lv_aload_n X.1 X.2.1 dJx4a65c_grow_92f84_32 rfl (lv_at hl 2 rfl) ?_
    refine r_getD X hw tw_55 hκ dJx4a65c_grow_92f84_33 ?_
    rw [hr]
    show W _ _ _ _ _ _ _ _ _ _ _ _ _ _ _ (F0 m 36 ls [.ref (B + d), .ref (B + c0)])
    refine lv_iload_n X.1 X.2.1 dJx4a65c_grow_92f84_36 rfl (lv_at hl 0 rfl) ?_
    refine r_callS (As := [.ref (B + d), .int (nI (gN S d + gN S d / 2))]) (rest := [.ref (B + c0)]) (st1 := [.ref (B + gZ S), .ref (B + c0)]) X hw (c_J7_copyOf2 l D B cy A ad av hA d _ hfr hG hκ2 (by omega) (by omega) hel) ⟨rfl, rfl, Nat.le_of_ble_eq_true rfl, Nat.le_of_ble_eq_true rfl⟩ tw_387 tw_388 tw_389 tw_390 hd_J7_copyOf2 rfl hl.1 rfl (Nat.le_of_ble_eq_true rfl) dJx4a65c_grow_92f84_37 ⟨Nat.le_refl _, by show 0 + 0 + _ ≤ M; omega⟩ rfl (fun H locs hw => ?_)
    refine lv_dup_x1 X.1 X.2.1 dJx4a65c_grow_92f84_40 rfl rfl ?_
    have hne := fresh_ne hfr hκ (by omega)
    have hκ1 : gK (aC S d (gN S d + gN S d / 2)) c0 = 0 := by
      show gK (aN S 25 _) c0 = 0
      rw [gK_aN, if_neg hne]; exact hκ
    have hGa : hC (aC S d (gN S d + gN S d / 2)) := hw.2.2.2.2.2
    refine r_putD (z := gZ S) X hw tw_55 hκ1 (hC_sR hGa hκ1 (by decide)) dJx4a65c_grow_92f84_41 (fun H locs hw => ?_)
    refine W.widen (k := 1) (n := M) (by omega) (by omega) ?_
    exact r_aret (v := some (gZ S)) X (Or.inr ⟨_, rfl⟩) hw dJx4a65c_grow_92f84_44
theorem c_Jl_grow (hA : ∀ c, 65 ≤ c → A (B + c)) (h99 : cy 99 = ad 9) (c0 M : Nat) {S Z : HS} {z : Nat} (hfr : hFr S) (hG : hC S) (hf : fl_grow c0 M S = some (z, Z)) : hMet l yJx4a65c_grow_d5877 cJx4a65c_grow_d5877 1 (some (.array (.object "java/lang/Object"))) { frames := 4, cells := 1, slots := M, locals := 97 } D B cy A ad av true hC [.ref (B + c0)] S Z (some (va_rf ((some z).map (B + ·)))) 1 M := by
  have hκ : gK S c0 = 0 := (gd_ok hf).1.1
  refine h_entry (by decide) hfr hG ?_
  intro p e s m below meth c args X hnm hw
  have hl := lv_entry ([.ref (B + c0)]) (n := 1) (Nat.le_of_ble_eq_true rfl)
  rw [lg_entry_eq]
  generalize (lg_sl ([.ref (B + c0)]) ++ List.replicate (1 - (lg_sl ([.ref (B + c0)])).length) Slot.unset).toArray = ls at hl ⊢
  have hl : lv_has ls 1 [(0, .ref (B + c0))] := hl
  refine lv_aload_n X.1 X.2.1 dJx4a65c_grow_d5877_0 rfl (lv_at hl 0 rfl) ?_
  refine lv_aload_n X.1 X.2.1 dJx4a65c_grow_d5877_1 rfl (lv_at hl 0 rfl) ?_
  refine r_getI X hw (κ := 0) rfl inlJx4a65c 2 (by decide) rfl (by decide) tw_178 hκ dJx4a65c_grow_d5877_2 ?_
  refine lv_iconst (v := 1) X.1 X.2.1 dJx4a65c_grow_d5877_5 (by decide) ?_
  refine lv_iadd X.1 X.2.1 dJx4a65c_grow_d5877_6 ?_
  refine r_callV (As := [.int (gI S c0 2 + 1)]) (rest := []) (st1 := [va_rf ((some z).map (B + ·))]) (κ := 0) X hw (c_Jl_growI l D B cy A ad av hA h99 c0 M hfr hG hf) ⟨rfl, rfl, Nat.le_of_ble_eq_true rfl, Nat.le_of_ble_eq_true rfl⟩ rfl (by decide) hκ tw_372 tw_373 tw_374 tw_20 tw_375 hd_Jl_growI rfl hl.1 rfl (Nat.le_of_ble_eq_true rfl) dJx4a65c_grow_d5877_7 ⟨Nat.le_refl _, by show 0 + M ≤ M; omega⟩ rfl (fun H locs hw => ?_)
  refine W.widen (k := 1) (n := M) (by omega) (by omega) ?_
  exact r_aret (v := some z) X (Or.inr ⟨_, rfl⟩) hw dJx4a65c_grow_d5877_10
theorem c_Jl_add3 (hA : ∀ c, 65 ≤ c → A (B + c)) (h99 : cy 99 = ad 9) (c0 e0 M : Nat) {S Z : HS} (hfr : hFr S) (hG : hC S) (hκ : gK S c0 = 0) (hf : fl_add3 c0 e0 M S = some Z) : hMet l yJx4a65c_add_72be8 cJx4a65c_add_72be8 4 none { frames := 5, cells := 1, slots := M, locals := 117 } D B cy A ad av true hC [.ref (B + c0), .ref (B + e0), .ref ((gR S c0 1).elim (cy 99) (B + ·)), .int (gI S c0 2)] S Z none 1 M := by
  refine h_entry (by decide) hfr hG ?_
  intro p e s m below meth c args X hnm hw
  have hl := lv_entry ([.ref (B + c0), .ref (B + e0), .ref ((gR S c0 1).elim (cy 99) (B + ·)), .int (gI S c0 2)]) (n := 4) (Nat.le_of_ble_eq_true rfl)
  rw [lg_entry_eq]
  generalize (lg_sl ([.ref (B + c0), .ref (B + e0), .ref ((gR S c0 1).elim (cy 99) (B + ·)), .int (gI S c0 2)]) ++ List.replicate (4 - (lg_sl ([.ref (B + c0), .ref (B + e0), .ref ((gR S c0 1).elim (cy 99) (B + ·)), .int (gI S c0 2)])).length) Slot.unset).toArray = ls at hl ⊢
  have hl : lv_has ls 4 [(0, .ref (B + c0)), (1, .ref (B + e0)), (2, .ref ((gR S c0 1).elim (cy 99) (B + ·))), (3, .int (gI S c0 2))] := hl
  have fin : ∀ (S2 : HS) (z : Nat) (H : Heap) (locs : List Loc) (ls : Array Slot) (ca sl : Nat), ca ≤ 1 → sl ≤ M → fl_st c0 e0 z (gI S c0 2) S2 = some Z → hWd D B cy A true hC S2 s.heap H locs → lv_has ls 4 [(2, .ref (B + z)), (0, .ref (B + c0)), (1, .ref (B + e0)), (3, .int (gI S c0 2))] → W p l e ({ frames := 5, cells := 1, slots := M, locals := 117 } : Room) s m args below meth c H locs ca sl (MQ below (hQo D B cy A true hC Z none) args s 1 M A) (F0 m 11 ls []) := by
    intro S2 z H locs ls ca sl hca hsl hf hw hl
    obtain ⟨⟨k1, k2, k3, k4⟩, hf⟩ := gd_ok hf
    cases hf
    refine lv_aload_n X.1 X.2.1 dJx4a65c_add_72be8_11 rfl (lv_at hl 0 rfl) ?_
    refine lv_iload_n X.1 X.2.1 dJx4a65c_add_72be8_12 rfl (lv_at hl 3 rfl) ?_
    refine lv_aload_n X.1 X.2.1 dJx4a65c_add_72be8_13 rfl (lv_at hl 2 rfl) ?_
    refine r_aastO X hw k1 rfl k4 k3 (hC_sR hw.2.2.2.2.2 k1 (by decide)) dJx4a65c_add_72be8_14 (fun H locs hw => ?_)
    refine lv_aload_n X.1 X.2.1 dJx4a65c_add_72be8_15 rfl (lv_at hl 1 rfl) ?_
    refine lv_iload_n X.1 X.2.1 dJx4a65c_add_72be8_16 rfl (lv_at hl 3 rfl) ?_
    refine lv_iconst (v := 1) X.1 X.2.1 dJx4a65c_add_72be8_17 (by decide) ?_
    refine lv_iadd X.1 X.2.1 dJx4a65c_add_72be8_18 ?_
    refine r_putI X hw (κ := 0) rfl inlJx4a65c tyJx4a65c tyJx4a65c_ok nmJx4a65c 2 (by decide) rfl (by decide) tw_178 (Or.inl rfl) k2 rfl rfl hw.2.2.2.2.2 dJx4a65c_add_72be8_19 (fun H locs hw => ?_)
    refine W.widen (k := 1) (n := M) hca hsl ?_
    exact r_vret X hw dJx4a65c_add_72be8_22
  refine lv_iload_n X.1 X.2.1 dJx4a65c_add_72be8_0 rfl (lv_at hl 3 rfl) ?_
  refine lv_aload_n X.1 X.2.1 dJx4a65c_add_72be8_1 rfl (lv_at hl 2 rfl) ?_
  have len : ∀ kk : W p l e ({ frames := 5, cells := 1, slots := M, locals := 117 } : Room) s m args below meth c s.heap [] 0 0 (MQ below (hQo D B cy A true hC Z none) args s 1 M A) (F0 m 3 ls [.int (nI ((gR S c0 1).elim 0 (gN S))), .int (gI S c0 2)]), (∀ d, gR S c0 1 = some d → gK S d = 25) → W p l e ({ frames := 5, cells := 1, slots := M, locals := 117 } : Room) s m args below meth c s.heap [] 0 0 (MQ below (hQo D B cy A true hC Z none) args s 1 M A) (F0 m 2 ls [.ref ((gR S c0 1).elim (cy 99) (B + ·)), .int (gI S c0 2)]) := by
    intro kk hd
    cases hr : gR S c0 1 with
    | none =>
      rw [hr] at kk
      show W _ _ _ _ _ _ _ _ _ _ _ _ _ _ _ (F0 m 2 ls [.ref (cy 99), .int (gI S c0 2)])
      rw [h99]
      exact va_tlen X.1 X.2.1 X.2.2.2.2.2.2.1.2.2.2.2.2.1 hw.2.2.1 (v := nI 0) rfl dJx4a65c_add_72be8_2 kk
    | some d =>
      rw [hr] at kk
      exact r_alen (κ := 25) X hw (hd d hr) (by decide) rfl dJx4a65c_add_72be8_2 kk
  by_cases hq : gI S c0 2 = nI ((gR S c0 1).elim 0 (gN S))
  · replace hf := cd_tk hq hf
    obtain ⟨z, S2, hg, hf⟩ := bn2_ok hf
    have hd : ∀ d, gR S c0 1 = some d → gK S d = 25 := by
      intro d hr
      obtain ⟨-, hg2⟩ := gd_ok hg
      replace hg2 := cs_sk hr hg2
      exact (gd_ok hg2).1.1
    refine len ?_ hd
    refine lv_icmp_ne (tgt := 11) X.1 X.2.1 dJx4a65c_add_72be8_3 (by decide) (fun h => absurd hq h) (fun _ => ?_)
    refine lv_aload_n X.1 X.2.1 dJx4a65c_add_72be8_6 rfl (lv_at hl 0 rfl) ?_
    refine r_callV (As := []) (rest := []) (st1 := [.ref (B + z)]) (κ := 0) X hw (c_Jl_grow l D B cy A ad av hA h99 c0 M hfr hG hg) ⟨rfl, rfl, Nat.le_of_ble_eq_true rfl, Nat.le_of_ble_eq_true rfl⟩ rfl (by decide) hκ tw_368 tw_369 tw_370 tw_20 tw_371 hd_Jl_grow rfl hl.1 rfl (Nat.le_of_ble_eq_true rfl) dJx4a65c_add_72be8_7 ⟨Nat.le_refl _, by show 0 + M ≤ M; omega⟩ rfl (fun H locs hw => ?_)
    refine lv_astore_n (lv' := [(2, .ref (B + z)), (0, .ref (B + c0)), (1, .ref (B + e0)), (3, .int (gI S c0 2))]) X.1 X.2.1 dJx4a65c_add_72be8_10 rfl hl (by decide) rfl (fun ls hl => ?_)
    exact fin S2 z H locs ls _ _ (by omega) (by omega) hf hw hl
  · replace hf := cd_fk hq hf
    obtain ⟨d, hr, hf⟩ := bn_ok hf
    obtain ⟨hκ2, hf⟩ := gd_ok hf
    refine len ?_ (fun d' h' => by rw [hr] at h'; cases h'; exact hκ2)
    refine lv_icmp_ne (tgt := 11) X.1 X.2.1 dJx4a65c_add_72be8_3 (by decide) (fun _ => ?_) (fun h => absurd h hq)
    rw [hr] at hl
    exact fin S d s.heap [] ls 0 0 (by omega) (by omega) hf hw (lv_sub hl [2, 0, 1, 3] rfl)
theorem c_Jl_add (hA : ∀ c, 65 ≤ c → A (B + c)) (h99 : cy 99 = ad 9) (c0 e0 M : Nat) {S Z : HS} (hfr : hFr S) (hG : hC S) (hf : fl_add c0 e0 M S = some Z) : hMet l yJx4a65c_add_9ea2d cJx4a65c_add_9ea2d 2 (some .boolean) { frames := 6, cells := 1, slots := M, locals := 140 } D B cy A ad av true hC [.ref (B + c0), .ref (B + e0)] S Z (some (.int 1)) 1 M := by
  obtain ⟨hκ, hf⟩ := gd_ok hf
  refine h_entry (by decide) hfr hG ?_
  intro p e s m below meth c args X hnm hw
  have hl := lv_entry ([.ref (B + c0), .ref (B + e0)]) (n := 2) (Nat.le_of_ble_eq_true rfl)
  rw [lg_entry_eq]
  generalize (lg_sl ([.ref (B + c0), .ref (B + e0)]) ++ List.replicate (2 - (lg_sl ([.ref (B + c0), .ref (B + e0)])).length) Slot.unset).toArray = ls at hl ⊢
  have hl : lv_has ls 2 [(0, .ref (B + c0)), (1, .ref (B + e0))] := hl
  refine lv_aload_n X.1 X.2.1 dJx4a65c_add_9ea2d_0 rfl (lv_at hl 0 rfl) ?_
  refine lv_dup X.1 X.2.1 dJx4a65c_add_9ea2d_1 rfl ?_
  refine r_getM X hw tw_362 hκ dJx4a65c_add_9ea2d_2 ?_
  refine lv_iconst (v := 1) X.1 X.2.1 dJx4a65c_add_9ea2d_5 (by decide) ?_
  refine lv_iadd X.1 X.2.1 dJx4a65c_add_9ea2d_6 ?_
  refine r_putM X hw tw_362 hκ hG dJx4a65c_add_9ea2d_7 (fun H locs hw => ?_)
  generalize hS1 : sI S c0 0 (gI S c0 0 + 1) = S1 at hf hw
  have hκ1 : gK S1 c0 = 0 := by rw [← hS1]; exact hκ
  refine lv_aload_n X.1 X.2.1 dJx4a65c_add_9ea2d_10 rfl (lv_at hl 0 rfl) ?_
  refine lv_aload_n X.1 X.2.1 dJx4a65c_add_9ea2d_11 rfl (lv_at hl 1 rfl) ?_
  refine lv_aload_n X.1 X.2.1 dJx4a65c_add_9ea2d_12 rfl (lv_at hl 0 rfl) ?_
  refine r_getD X hw tw_55 hκ1 dJx4a65c_add_9ea2d_13 ?_
  refine lv_aload_n X.1 X.2.1 dJx4a65c_add_9ea2d_16 rfl (lv_at hl 0 rfl) ?_
  refine r_getI X hw (κ := 0) rfl inlJx4a65c 2 (by decide) rfl (by decide) tw_178 hκ1 dJx4a65c_add_9ea2d_17 ?_
  refine r_callV (As := [.ref (B + e0), .ref ((gR S1 c0 1).elim (cy 99) (B + ·)), .int (gI S1 c0 2)]) (rest := []) (st1 := []) (κ := 0) X hw (c_Jl_add3 l D B cy A ad av hA h99 c0 e0 M hw.2.2.2.2.1 hw.2.2.2.2.2 hκ1 hf) ⟨rfl, rfl, Nat.le_of_ble_eq_true rfl, Nat.le_of_ble_eq_true rfl⟩ rfl (by decide) hκ1 tw_364 tw_365 tw_366 tw_20 tw_367 hd_Jl_add3 rfl hl.1 rfl (Nat.le_of_ble_eq_true rfl) dJx4a65c_add_9ea2d_20 ⟨Nat.le_refl _, by show 0 + M ≤ M; omega⟩ rfl (fun H locs hw => ?_)
  refine lv_iconst (v := 1) X.1 X.2.1 dJx4a65c_add_9ea2d_23 (by decide) ?_
  refine W.widen (k := 1) (n := M) (by omega) (by omega) ?_
  exact r_zret X hw (by decide) dJx4a65c_add_9ea2d_24
theorem c_Jl_range (c0 : Nat) (i : Int32) {S : HS} (hfr : hFr S) (hG : hC S) (hκ : gK S c0 = 0) (h0 : ¬ i < 0) (h1 : i ≤ gI S c0 2) : hMet l yJx4a65c_rangeCheckForAdd_d00df cJx4a65c_rangeCheckForAdd_d00df 2 none { frames := 0, cells := 0, slots := 0, locals := 0 } D B cy A ad av true hC [.ref (B + c0), .int i] S S none 0 0 := by
  refine h_entry (by decide) hfr hG ?_
  intro p e s m below meth c args X hnm hw
  have hl := lv_entry ([.ref (B + c0), .int i]) (n := 2) (Nat.le_of_ble_eq_true rfl)
  rw [lg_entry_eq]
  generalize (lg_sl ([.ref (B + c0), .int i]) ++ List.replicate (2 - (lg_sl ([.ref (B + c0), .int i])).length) Slot.unset).toArray = ls at hl ⊢
  have hl : lv_has ls 2 [(0, .ref (B + c0)), (1, .int i)] := hl
  refine lv_iload_n X.1 X.2.1 dJx4a65c_rangeCheckForAdd_d00df_0 rfl (lv_at hl 1 rfl) ?_
  refine lv_aload_n X.1 X.2.1 dJx4a65c_rangeCheckForAdd_d00df_1 rfl (lv_at hl 0 rfl) ?_
  refine r_getI X hw (κ := 0) rfl inlJx4a65c 2 (by decide) rfl (by decide) tw_178 hκ dJx4a65c_rangeCheckForAdd_d00df_2 ?_
  refine lv_icmp_gt (tgt := 12) X.1 X.2.1 dJx4a65c_rangeCheckForAdd_d00df_5 (by decide) (fun hq => absurd h1 (Int32.not_le.mpr hq)) (fun _ => ?_)
  refine lv_iload_n X.1 X.2.1 dJx4a65c_rangeCheckForAdd_d00df_8 rfl (lv_at hl 1 rfl) ?_
  refine lv_if_ge (tgt := 25) X.1 X.2.1 dJx4a65c_rangeCheckForAdd_d00df_9 (by decide) (fun _ => ?_) (fun hq => absurd (Int32.not_lt.mp h0) hq)
  exact r_vret X hw dJx4a65c_rangeCheckForAdd_d00df_25
theorem c_Jl_addAt (hA : ∀ c, 65 ≤ c → A (B + c)) (h99 : cy 99 = ad 9) (c0 : Nat) (i : Int32) (e0 M : Nat) {S Z : HS} (hfr : hFr S) (hG : hC S) (hf : fl_addAt c0 i e0 M S = some Z) : hMet l yJx4a65c_add_7a177 cJx4a65c_add_7a177 5 none { frames := 5, cells := 1, slots := M, locals := 117 } D B cy A ad av true hC [.ref (B + c0), .int i, .ref (B + e0)] S Z none 1 M := by
  obtain ⟨⟨hκ, hi0, hi1⟩, hf⟩ := gd_ok hf
  refine h_entry (by decide) hfr hG ?_
  intro p e s m below meth c args X hnm hw
  have hl := lv_entry ([.ref (B + c0), .int i, .ref (B + e0)]) (n := 5) (Nat.le_of_ble_eq_true rfl)
  rw [lg_entry_eq]
  generalize (lg_sl ([.ref (B + c0), .int i, .ref (B + e0)]) ++ List.replicate (5 - (lg_sl ([.ref (B + c0), .int i, .ref (B + e0)])).length) Slot.unset).toArray = ls at hl ⊢
  have hl : lv_has ls 5 [(0, .ref (B + c0)), (1, .int i), (2, .ref (B + e0))] := hl
  refine lv_aload_n X.1 X.2.1 dJx4a65c_add_7a177_0 rfl (lv_at hl 0 rfl) ?_
  refine lv_iload_n X.1 X.2.1 dJx4a65c_add_7a177_1 rfl (lv_at hl 1 rfl) ?_
  refine r_callV (As := [.int i]) (rest := []) (st1 := []) (κ := 0) X hw (c_Jl_range l D B cy A ad av c0 i hfr hG hκ hi0 hi1) ⟨rfl, rfl, Nat.le_of_ble_eq_true rfl, Nat.le_of_ble_eq_true rfl⟩ rfl (by decide) hκ tw_437 tw_438 tw_439 tw_20 tw_440 hd_Jl_range rfl hl.1 rfl (Nat.le_of_ble_eq_true rfl) dJx4a65c_add_7a177_2 ⟨Nat.zero_le _, Nat.zero_le _⟩ rfl (fun H locs hw => ?_)
  refine lv_aload_n X.1 X.2.1 dJx4a65c_add_7a177_5 rfl (lv_at hl 0 rfl) ?_
  refine lv_dup X.1 X.2.1 dJx4a65c_add_7a177_6 rfl ?_
  refine r_getM X hw tw_362 hκ dJx4a65c_add_7a177_7 ?_
  refine lv_iconst (v := 1) X.1 X.2.1 dJx4a65c_add_7a177_10 (by decide) ?_
  refine lv_iadd X.1 X.2.1 dJx4a65c_add_7a177_11 ?_
  refine r_putM X hw tw_362 hκ hG dJx4a65c_add_7a177_12 (fun H locs hw => ?_)
  generalize hS1 : sI S c0 0 (gI S c0 0 + 1) = S1 at hf hw
  have hκ1 : gK S1 c0 = 0 := by rw [← hS1]; exact hκ
  have hfr1 := hw.2.2.2.2.1
  have hG1 : hC S1 := hw.2.2.2.2.2
  have fin : ∀ (S2 : HS) (z : Nat) (H : Heap) (locs : List Loc) (ls : Array Slot) (ca sl : Nat), ca ≤ 1 → sl ≤ M → fl_ins c0 e0 z i (gI S1 c0 2) S2 = some Z → hWd D B cy A true hC S2 s.heap H locs → lv_has ls 5 [(4, .ref (B + z)), (3, .int (gI S1 c0 2)), (0, .ref (B + c0)), (1, .int i), (2, .ref (B + e0))] → W p l e ({ frames := 5, cells := 1, slots := M, locals := 117 } : Room) s m args below meth c H locs ca sl (MQ below (hQo D B cy A true hC Z none) args s 1 M A) (F0 m 38 ls []) := by
    intro S2 z H locs ls ca sl hca hsl hf hw hl
    obtain ⟨⟨j1, j2, j3, j4, j5, j6, j7⟩, hf⟩ := gd_ok hf
    replace hf : gd _ _ = some Z := hf
    obtain ⟨⟨k1, k2, k3, k4⟩, hf⟩ := gd_ok hf
    cases hf
    refine lv_aload X.1 X.2.1 dJx4a65c_add_7a177_38 (lv_at hl 0 rfl) ?_
    refine lv_iload_n X.1 X.2.1 dJx4a65c_add_7a177_40 rfl (lv_at hl 3 rfl) ?_
    refine lv_aload X.1 X.2.1 dJx4a65c_add_7a177_41 (lv_at hl 0 rfl) ?_
    refine lv_iload_n X.1 X.2.1 dJx4a65c_add_7a177_43 rfl (lv_at hl 3 rfl) ?_
    refine lv_iconst (v := 1) X.1 X.2.1 dJx4a65c_add_7a177_44 (by decide) ?_
    refine lv_iadd X.1 X.2.1 dJx4a65c_add_7a177_45 ?_
    refine lv_iload_n X.1 X.2.1 dJx4a65c_add_7a177_46 rfl (lv_at hl 1 rfl) ?_
    refine lv_iload_n X.1 X.2.1 dJx4a65c_add_7a177_47 rfl (lv_at hl 3 rfl) ?_
    refine lv_isub X.1 X.2.1 dJx4a65c_add_7a177_48 ?_
    refine r_copy (d0 := z) (d1 := z) X hw hl.1 tw_436 j1 j1 j2 j3 j4 j5 j6 j7 (hC_sRf hw.2.2.2.2.2 j1 (by decide)) (by show 1 ≤ 5; omega) (Nat.le_of_ble_eq_true rfl) dJx4a65c_add_7a177_49 (fun H locs hw => ?_)
    refine lv_aload X.1 X.2.1 dJx4a65c_add_7a177_52 (lv_at hl 0 rfl) ?_
    refine lv_iload_n X.1 X.2.1 dJx4a65c_add_7a177_54 rfl (lv_at hl 3 rfl) ?_
    refine lv_aload_n X.1 X.2.1 dJx4a65c_add_7a177_55 rfl (lv_at hl 4 rfl) ?_
    refine r_aastO X hw k1 rfl k4 k3 (hC_sR hw.2.2.2.2.2 k1 (by decide)) dJx4a65c_add_7a177_56 (fun H locs hw => ?_)
    refine lv_aload_n X.1 X.2.1 dJx4a65c_add_7a177_57 rfl (lv_at hl 2 rfl) ?_
    refine lv_iload_n X.1 X.2.1 dJx4a65c_add_7a177_58 rfl (lv_at hl 1 rfl) ?_
    refine lv_iconst (v := 1) X.1 X.2.1 dJx4a65c_add_7a177_59 (by decide) ?_
    refine lv_iadd X.1 X.2.1 dJx4a65c_add_7a177_60 ?_
    refine r_putI X hw (κ := 0) rfl inlJx4a65c tyJx4a65c tyJx4a65c_ok nmJx4a65c 2 (by decide) rfl (by decide) tw_178 (Or.inl rfl) k2 rfl rfl hw.2.2.2.2.2 dJx4a65c_add_7a177_61 (fun H locs hw => ?_)
    refine W.widen (k := 1) (n := M) hca hsl ?_
    exact r_vret X hw dJx4a65c_add_7a177_64
  refine lv_aload_n X.1 X.2.1 dJx4a65c_add_7a177_15 rfl (lv_at hl 0 rfl) ?_
  refine r_getI X hw (κ := 0) rfl inlJx4a65c 2 (by decide) rfl (by decide) tw_178 hκ1 dJx4a65c_add_7a177_16 ?_
  refine lv_dup X.1 X.2.1 dJx4a65c_add_7a177_19 rfl ?_
  refine lv_istore_n (lv' := [(3, .int (gI S1 c0 2)), (0, .ref (B + c0)), (1, .int i), (2, .ref (B + e0))]) X.1 X.2.1 dJx4a65c_add_7a177_20 rfl hl (by decide) rfl (fun ls hl => ?_)
  refine lv_aload_n X.1 X.2.1 dJx4a65c_add_7a177_21 rfl (lv_at hl 1 rfl) ?_
  refine r_getD X hw tw_55 hκ1 dJx4a65c_add_7a177_22 ?_
  refine lv_dup X.1 X.2.1 dJx4a65c_add_7a177_25 rfl ?_
  refine lv_astore (lv' := [(4, .ref ((gR S1 c0 1).elim (cy 99) (B + ·))), (3, .int (gI S1 c0 2)), (0, .ref (B + c0)), (1, .int i), (2, .ref (B + e0))]) X.1 X.2.1 dJx4a65c_add_7a177_26 hl (by decide) rfl (fun ls hl => ?_)
  have len : ∀ kk : W p l e ({ frames := 5, cells := 1, slots := M, locals := 117 } : Room) s m args below meth c H locs (0 + 0) (0 + 0) (MQ below (hQo D B cy A true hC Z none) args s 1 M A) (F0 m 29 ls [.int (nI ((gR S1 c0 1).elim 0 (gN S1))), .int (gI S1 c0 2)]), (∀ d, gR S1 c0 1 = some d → gK S1 d = 25) → W p l e ({ frames := 5, cells := 1, slots := M, locals := 117 } : Room) s m args below meth c H locs (0 + 0) (0 + 0) (MQ below (hQo D B cy A true hC Z none) args s 1 M A) (F0 m 28 ls [.ref ((gR S1 c0 1).elim (cy 99) (B + ·)), .int (gI S1 c0 2)]) := by
    intro kk hd
    cases hr : gR S1 c0 1 with
    | none =>
      rw [hr] at kk
      show W _ _ _ _ _ _ _ _ _ _ _ _ _ _ _ (F0 m 28 ls [.ref (cy 99), .int (gI S1 c0 2)])
      rw [h99]
      exact va_tlen X.1 X.2.1 X.2.2.2.2.2.2.1.2.2.2.2.2.1 hw.2.2.1 (v := nI 0) rfl dJx4a65c_add_7a177_28 kk
    | some d =>
      rw [hr] at kk
      exact r_alen (κ := 25) X hw (hd d hr) (by decide) rfl dJx4a65c_add_7a177_28 kk
  by_cases hq : gI S1 c0 2 = nI ((gR S1 c0 1).elim 0 (gN S1))
  · replace hf := cd_tk hq hf
    obtain ⟨z, S2, hg, hf⟩ := bn2_ok hf
    have hd : ∀ d, gR S1 c0 1 = some d → gK S1 d = 25 := by
      intro d hr
      obtain ⟨-, hg2⟩ := gd_ok hg
      replace hg2 := cs_sk hr hg2
      exact (gd_ok hg2).1.1
    refine len ?_ hd
    refine lv_icmp_ne (tgt := 38) X.1 X.2.1 dJx4a65c_add_7a177_29 (by decide) (fun h => absurd hq h) (fun _ => ?_)
    refine lv_aload_n X.1 X.2.1 dJx4a65c_add_7a177_32 rfl (lv_at hl 2 rfl) ?_
    refine r_callV (As := []) (rest := []) (st1 := [.ref (B + z)]) (κ := 0) X hw (c_Jl_grow l D B cy A ad av hA h99 c0 M hfr1 hG1 hg) ⟨rfl, rfl, Nat.le_of_ble_eq_true rfl, Nat.le_of_ble_eq_true rfl⟩ rfl (by decide) hκ1 tw_368 tw_369 tw_370 tw_20 tw_371 hd_Jl_grow rfl hl.1 rfl (Nat.le_of_ble_eq_true rfl) dJx4a65c_add_7a177_33 ⟨Nat.le_refl _, by show 0 + 0 + M ≤ M; omega⟩ rfl (fun H locs hw => ?_)
    refine lv_astore (lv' := [(4, .ref (B + z)), (3, .int (gI S1 c0 2)), (0, .ref (B + c0)), (1, .int i), (2, .ref (B + e0))]) X.1 X.2.1 dJx4a65c_add_7a177_36 hl (by decide) rfl (fun ls hl => ?_)
    exact fin S2 z H locs ls _ _ (by omega) (by omega) hf hw hl
  · replace hf := cd_fk hq hf
    obtain ⟨d, hr, hf⟩ := bn_ok hf
    obtain ⟨hκ2, hf⟩ := gd_ok hf
    refine len ?_ (fun d' h' => by rw [hr] at h'; cases h'; exact hκ2)
    refine lv_icmp_ne (tgt := 38) X.1 X.2.1 dJx4a65c_add_7a177_29 (by decide) (fun _ => ?_) (fun h => absurd h hq)
    rw [hr] at hl
    exact fin S1 d H locs ls _ _ (by omega) (by omega) hf hw hl
end JL3
