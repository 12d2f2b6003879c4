def R_law : String := "PayScalesLaw"
def lw_P (b : Addr) (xs : List Int32) (args : Array Value) (s : State) : Prop := args = #[.ref b] ∧ s.IntsAt b xs ∧ xs.length ≤ 3072 ∧ (Jvm.Cond.and given_1 narrow_1).before args s = true
def lw_Q (_ : Array Value) (s : State) (o : Outcome) (t : State) : Prop := o = .returned (some (.int 1)) ∧ Framed s o t [] 600000 7302250
def lw_Z (below : List Frame) (a : Array Value) (s : State) : State → Prop := fun t => ∃ o, t.status = .running ∧ Ended t below o ∧ lw_Q a s o t
/-- the law's own end, with 1 on the stack, nothing written that was there before, its room as the claim has it -/
theorem lw_ret {p : Program} {l : Launch} {e : Env} {s : State} {m : MethodId} {below : List Frame} {meth : Method} {c : Code} {b : Nat} (hx : p.tables.exec = Jvm.exec) (hb : c.code = code) (hr : meth.sig.returnType = ret) (hlocks : meth.locks = false) {pc : Nat} {H : Heap} {ls : Array Slot} (hdg : decode code pc = .ok (.ireturn, 1)) : W p l e room_1 s m #[Value.ref b] below meth c H [] 600000 7302250 (lw_Z below #[Value.ref b] s) (F0 m pc ls [.int 1]) := by
  intro T hT X
  obtain ⟨fs, hret, hrun, hended, hW, hframe⟩ := X.leave (v := some (.int 1)) (hlocks := hlocks) (fun h => by rw [hr] at h; cases h)
  have hmeth' : T.vm.method? m = some meth := X.method'
  refine ⟨T.setFrames fs, ?_, .returned (some (.int 1)), hrun, hended, rfl, ⟨_, rfl⟩, hW, hframe⟩
  jvm_step X.here [X.here.top, hx, hb, hdg, hmeth', hr, ret, narrow_b1]
  (try refine ⟨rfl, ?_⟩); (try refine ⟨rfl, ?_⟩)
  first | (intro acts; rw [hret _ acts rfl rfl rfl]) | rw [hret _ _ rfl rfl rfl]
  exact Steps.refl _
/-- what holds at the law's entry: the machine, the code, the tables' words (any of lw_tbl by 'hts w (by decide +kernel)'), the script of L ints xs at the cell b, what the Statement gives of the start (any of its parts by flat_of_before) -/
def lw_At (p : Program) (s : State) (m : MethodId) (meth : Method) (c : Code) (b L : Nat) (xs : Nat → Int32) : Prop :=
  p.tables.exec = Jvm.exec ∧ c.code = code ∧ meth.sig.returnType = ret ∧ c.maxLocals = 4 ∧ s.vm.findClass R_law = some m.cls ∧ (∀ w ∈ lw_tbl, w.before #[Value.ref b] s = true) ∧ va_X b L xs s s.heap ∧ b < s.heap.size ∧ meth.locks = false ∧ (Jvm.Cond.and given_1 narrow_1).before #[Value.ref b] s = true
def LIi (RR : Nat → HS → HS → Prop) (f g : HS → Option (Int32 × HS)) : Prop := ∀ (k : Nat) (SC SM : HS), k < 512 → RR k SC SM → ∃ (r : Int32) (Z1 : HS), f SC = some (r, Z1) ∧ ∀ z, 41 ≤ z → ∃ Z2, g (sZ SM z) = some (r, Z2) ∧ RR (k + 1) Z1 Z2
def LIl (RR : Nat → HS → HS → Prop) (f g : HS → Option (Int64 × HS)) : Prop := ∀ (k : Nat) (SC SM : HS), k < 512 → RR k SC SM → ∃ (r : Int64) (Z1 : HS), f SC = some (r, Z1) ∧ ∀ z, 41 ≤ z → ∃ Z2, g (sZ SM z) = some (r, Z2) ∧ RR (k + 1) Z1 Z2
def LAll (RR : Nat → HS → HS → Prop) : Prop := (∀ (k : Nat) (SC SM : HS) (z : Nat), RR k SC SM → RR (k + 1) SC SM) ∧ (∀ (x1 x2 x3 x4 x5 : Int32), LIi RR (fn_X8_feed x1 x2 x3 x4 x5) (fn_X9_feed x1 x2 x3 x4 x5)) ∧ (∀ (x1 x2 : Int32), LIi RR (fn_X8_agree x1 x2) (fn_X9_agree x1 x2)) ∧ (∀ (x1 : Int32), LIi RR (fn_X8_fault x1) (fn_X9_fault x1)) ∧ (∀ (x1 : Int32), LIi RR (fn_X8_pass x1) (fn_X9_pass x1)) ∧ (∀ (x1 : Int32), LIi RR (fn_X8_post x1) (fn_X9_post x1)) ∧ (∀ (x1 x2 x3 x4 : Int32), LIi RR (fn_X8_note x1 x2 x3 x4) (fn_X9_note x1 x2 x3 x4)) ∧ (∀ (x1 x2 x3 x4 : Int32), LIi RR (fn_X8_look x1 x2 x3 x4) (fn_X9_look x1 x2 x3 x4)) ∧ (∀ (x1 x2 x3 : Int32), LIl RR (fn_X8_pay x1 x2 x3) (fn_X9_pay x1 x2 x3)) ∧ (∀ (x1 x2 x3 : Int32), LIl RR (fn_X8_due x1 x2 x3) (fn_X9_due x1 x2 x3)) ∧ (LIi RR (fn_X8_run ) (fn_X9_run )) ∧ (∀ (x1 x2 : Int32), LIl RR (fn_X8_payment x1 x2) (fn_X9_payment x1 x2)) ∧ (∀ (x1 x2 : Int32), LIl RR (fn_X8_paid x1 x2) (fn_X9_paid x1 x2)) ∧ (∀ (x1 x2 x3 : Int32), LIl RR (fn_X8_cost x1 x2 x3) (fn_X9_cost x1 x2 x3)) ∧ (∀ (x1 x2 x3 : Int32), LIi RR (fn_X8_like x1 x2 x3) (fn_X9_like x1 x2 x3)) ∧ (∀ (x1 x2 : Int32), LIi RR (fn_X8_pair x1 x2) (fn_X9_pair x1 x2)) ∧ (∀ (x1 x2 : Int32), LIi RR (fn_X8_meet x1 x2) (fn_X9_meet x1 x2)) ∧ (∀ (x1 x2 : Int32), LIi RR (fn_X8_met x1 x2) (fn_X9_met x1 x2)) ∧ (∀ (x1 : Int32), LIi RR (fn_X8_count x1) (fn_X9_count x1))
theorem lg_cmp_self (r : Int64) : lg_cmp r r = 0 := by
  unfold lg_cmp
  rw [if_neg (by simp), if_pos rfl]
theorem law_more {L k : Nat} (hL : L ≤ 3072) (hk : 6 * k ≤ L) (h : ¬ Int32.ofNat L - 6 < nI (6 * k)) : 6 * k + 6 ≤ L := by
  rcases Nat.lt_or_ge L (6 * k + 6) with q | q
  · refine absurd ?_ h
    rw [Int32.lt_iff_toInt_lt]
    have e1 : (nI L - nI 6).toInt = (L : Int) - 6 := pk_sub_toInt (by omega) (by omega)
    have e2 : (nI (6 * k)).toInt = ((6 * k : Nat) : Int) := nI_toInt (by omega)
    show (nI L - nI 6).toInt < _
    rw [e1, e2]
    omega
  · exact q
theorem law_ix {L k j : Nat} (hL : L ≤ 3072) (h : 6 * k + 6 ≤ L) (hj : j < 6) : vp_in (nI (6 * k) + nI j) L := by
  rw [nI_add]
  exact vp_in_nI (by omega) (by omega)
set_option maxHeartbeats 4000000 in
theorem lc_feed {p : Program} {l : Launch} {e : Env} {s : State} {m : MethodId} {below : List Frame} {meth : Method} {c : Code} {D : va_G} {B : Nat} {cy : Nat → ClassId} {ad av : Nat → Nat} {b L k : Nat} {xs : Nat → Int32} {RR : Nat → HS → HS → Prop} {SC SM : HS} {H : Heap} {ls : Array Slot} {x3 : Int32} (hq : ∀ (x1 x2 x3 x4 x5 : Int32), LIi RR (fn_X8_feed x1 x2 x3 x4 x5) (fn_X9_feed x1 x2 x3 x4 x5)) (hLn : L ≤ 3072) (Xc : hCX p s m #[Value.ref b] meth c RL cL_law 4 (some .boolean) D cy (AC B) ad av) (Xm : hCX p s m #[Value.ref b] meth c RL cL_law 4 (some .boolean) D cy (AM B) ad av) (hA : ∀ c, 65 ≤ c → AC B (B + c)) (h99 : cy 99 = ad 9) (hX : va_X b L xs s s.heap) (hbl : b < s.heap.size) (hbA : ¬ (fun q : Nat => s.heap.size ≤ q) b) (hk5 : k < 512) (hin : ∀ j, j < 6 → vp_in (x3 + nI j) L)
    (hnext : ∀ (SC SM : HS) (H : Heap) (ls : Array Slot), RR (k + 1) SC SM → LW D B cy SC SM s.heap H → lv_has ls 4 [(0, .ref b), (1, .ref (B + 0)), (2, .ref (B + 24 + 0)), (3, .int x3)] → W p l e room_1 s m #[Value.ref b] below meth c H [] (100 + 140 * (k + 1)) (40000 + 4300 * (k + 1)) (lw_Z below #[Value.ref b] s) (F0 m 769 ls [])) (hR : RR k SC SM) (hL : LW D B cy SC SM s.heap H) (hl : lv_has ls 4 [(0, .ref b), (1, .ref (B + 0)), (2, .ref (B + 24 + 0)), (3, .int x3)]) : W p l e room_1 s m #[Value.ref b] below meth c H [] (100 + 140 * k) (40000 + 4300 * k) (lw_Z below #[Value.ref b] s) (F0 m 120 ls []) := by
  obtain ⟨r, Z1, hf1, hst⟩ := hq (xs (x3 + nI 1).toNatClampNeg) (xs (x3 + nI 2).toNatClampNeg) (xs (x3 + nI 3).toNatClampNeg) (xs (x3 + nI 4).toNatClampNeg) (xs (x3 + nI 5).toNatClampNeg) k SC SM hk5 hR
  refine lv_aload_n Xc.1 Xc.2.1 dL_law_120 rfl (lv_at hl 1 rfl) ?_
  refine lv_aload_n Xc.1 Xc.2.1 dL_law_121 rfl (lv_at hl 0 rfl) ?_
  refine lv_iload_n Xc.1 Xc.2.1 dL_law_122 rfl (lv_at hl 3 rfl) ?_
  refine lv_iconst (v := nI 1) Xc.1 Xc.2.1 dL_law_123 (by decide) ?_
  refine lv_iadd Xc.1 Xc.2.1 dL_law_124 ?_
  refine va_sld Xc.1 Xc.2.1 hX hbl hbA hL.N (hin 1 (by decide)) dL_law_125 ?_
  refine lv_aload_n Xc.1 Xc.2.1 dL_law_126 rfl (lv_at hl 0 rfl) ?_
  refine lv_iload_n Xc.1 Xc.2.1 dL_law_127 rfl (lv_at hl 3 rfl) ?_
  refine lv_iconst (v := nI 2) Xc.1 Xc.2.1 dL_law_128 (by decide) ?_
  refine lv_iadd Xc.1 Xc.2.1 dL_law_129 ?_
  refine va_sld Xc.1 Xc.2.1 hX hbl hbA hL.N (hin 2 (by decide)) dL_law_130 ?_
  refine lv_aload_n Xc.1 Xc.2.1 dL_law_131 rfl (lv_at hl 0 rfl) ?_
  refine lv_iload_n Xc.1 Xc.2.1 dL_law_132 rfl (lv_at hl 3 rfl) ?_
  refine lv_iconst (v := nI 3) Xc.1 Xc.2.1 dL_law_133 (by decide) ?_
  refine lv_iadd Xc.1 Xc.2.1 dL_law_134 ?_
  refine va_sld Xc.1 Xc.2.1 hX hbl hbA hL.N (hin 3 (by decide)) dL_law_135 ?_
  refine lv_aload_n Xc.1 Xc.2.1 dL_law_136 rfl (lv_at hl 0 rfl) ?_
  refine lv_iload_n Xc.1 Xc.2.1 dL_law_137 rfl (lv_at hl 3 rfl) ?_
  refine lv_iconst (v := nI 4) Xc.1 Xc.2.1 dL_law_138 (by decide) ?_
  refine lv_iadd Xc.1 Xc.2.1 dL_law_139 ?_
  refine va_sld Xc.1 Xc.2.1 hX hbl hbA hL.N (hin 4 (by decide)) dL_law_140 ?_
  refine lv_aload_n Xc.1 Xc.2.1 dL_law_141 rfl (lv_at hl 0 rfl) ?_
  refine lv_iload_n Xc.1 Xc.2.1 dL_law_142 rfl (lv_at hl 3 rfl) ?_
  refine lv_iconst (v := nI 5) Xc.1 Xc.2.1 dL_law_143 (by decide) ?_
  refine lv_iadd Xc.1 Xc.2.1 dL_law_144 ?_
  refine va_sld Xc.1 Xc.2.1 hX hbl hbA hL.N (hin 5 (by decide)) dL_law_145 ?_
  refine lw_callC (As := [.int (xs (x3 + nI 1).toNatClampNeg), .int (xs (x3 + nI 2).toNatClampNeg), .int (xs (x3 + nI 3).toNatClampNeg), .int (xs (x3 + nI 4).toNatClampNeg), .int (xs (x3 + nI 5).toNatClampNeg)]) (rest := []) (st1 := [.int r]) Xc hL (c_X8_feed l D B cy (AC B) ad av (xs (x3 + nI 1).toNatClampNeg) (xs (x3 + nI 2).toNatClampNeg) (xs (x3 + nI 3).toNatClampNeg) (xs (x3 + nI 4).toNatClampNeg) (xs (x3 + nI 5).toNatClampNeg) hL.C.2.2.2.2.1 hL.C.2.2.2.2.2 hf1) ⟨rfl, rfl, Nat.le_of_ble_eq_true rfl, Nat.le_of_ble_eq_true rfl⟩ tw_145 tw_146 tw_147 tw_148 hd_X8_feed rfl hl.1 rfl (Nat.le_of_ble_eq_true rfl) dL_law_146 ⟨show 100 + 140 * k + 0 ≤ 600000 by omega, show 40000 + 4300 * k + 0 ≤ 7302250 by omega⟩ rfl (fun H hL => ?_)
  refine W.widen (k := 100 + 140 * (k + 1)) (n := 40000 + 4300 * (k + 1)) (by omega) (by omega) ?_
  obtain ⟨Z2, hf2, hR2⟩ := hst (gZ Z1 - 24) (by have := hL.C.2.2.2.2.2.1; omega)
  refine lv_aload_n Xc.1 Xc.2.1 dL_law_149 rfl (lv_at hl 2 rfl) ?_
  refine lv_aload_n Xc.1 Xc.2.1 dL_law_150 rfl (lv_at hl 0 rfl) ?_
  refine lv_iload_n Xc.1 Xc.2.1 dL_law_151 rfl (lv_at hl 3 rfl) ?_
  refine lv_iconst (v := nI 1) Xc.1 Xc.2.1 dL_law_152 (by decide) ?_
  refine lv_iadd Xc.1 Xc.2.1 dL_law_153 ?_
  refine va_sld Xc.1 Xc.2.1 hX hbl hbA hL.N (hin 1 (by decide)) dL_law_154 ?_
  refine lv_aload_n Xc.1 Xc.2.1 dL_law_155 rfl (lv_at hl 0 rfl) ?_
  refine lv_iload_n Xc.1 Xc.2.1 dL_law_156 rfl (lv_at hl 3 rfl) ?_
  refine lv_iconst (v := nI 2) Xc.1 Xc.2.1 dL_law_157 (by decide) ?_
  refine lv_iadd Xc.1 Xc.2.1 dL_law_158 ?_
  refine va_sld Xc.1 Xc.2.1 hX hbl hbA hL.N (hin 2 (by decide)) dL_law_159 ?_
  refine lv_aload_n Xc.1 Xc.2.1 dL_law_160 rfl (lv_at hl 0 rfl) ?_
  refine lv_iload_n Xc.1 Xc.2.1 dL_law_161 rfl (lv_at hl 3 rfl) ?_
  refine lv_iconst (v := nI 3) Xc.1 Xc.2.1 dL_law_162 (by decide) ?_
  refine lv_iadd Xc.1 Xc.2.1 dL_law_163 ?_
  refine va_sld Xc.1 Xc.2.1 hX hbl hbA hL.N (hin 3 (by decide)) dL_law_164 ?_
  refine lv_aload_n Xc.1 Xc.2.1 dL_law_165 rfl (lv_at hl 0 rfl) ?_
  refine lv_iload_n Xc.1 Xc.2.1 dL_law_166 rfl (lv_at hl 3 rfl) ?_
  refine lv_iconst (v := nI 4) Xc.1 Xc.2.1 dL_law_167 (by decide) ?_
  refine lv_iadd Xc.1 Xc.2.1 dL_law_168 ?_
  refine va_sld Xc.1 Xc.2.1 hX hbl hbA hL.N (hin 4 (by decide)) dL_law_169 ?_
  refine lv_aload_n Xc.1 Xc.2.1 dL_law_170 rfl (lv_at hl 0 rfl) ?_
  refine lv_iload_n Xc.1 Xc.2.1 dL_law_171 rfl (lv_at hl 3 rfl) ?_
  refine lv_iconst (v := nI 5) Xc.1 Xc.2.1 dL_law_172 (by decide) ?_
  refine lv_iadd Xc.1 Xc.2.1 dL_law_173 ?_
  refine va_sld Xc.1 Xc.2.1 hX hbl hbA hL.N (hin 5 (by decide)) dL_law_174 ?_
  refine lw_callM (As := [.int (xs (x3 + nI 1).toNatClampNeg), .int (xs (x3 + nI 2).toNatClampNeg), .int (xs (x3 + nI 3).toNatClampNeg), .int (xs (x3 + nI 4).toNatClampNeg), .int (xs (x3 + nI 5).toNatClampNeg)]) (rest := [.int r]) (st1 := [.int r, .int r]) Xm hL (c_X9_feed l D (B + 24) cy (AM B) ad av (xs (x3 + nI 1).toNatClampNeg) (xs (x3 + nI 2).toNatClampNeg) (xs (x3 + nI 3).toNatClampNeg) (xs (x3 + nI 4).toNatClampNeg) (xs (x3 + nI 5).toNatClampNeg) hL.M.2.2.2.2.1 hL.M.2.2.2.2.2 hf2) ⟨rfl, rfl, Nat.le_of_ble_eq_true rfl, Nat.le_of_ble_eq_true rfl⟩ tw_154 tw_155 tw_156 tw_157 hd_X9_feed rfl hl.1 rfl (Nat.le_of_ble_eq_true rfl) dL_law_175 ⟨show 100 + 140 * (k + 1) ≤ 600000 by omega, show 40000 + 4300 * (k + 1) ≤ 7302250 by omega⟩ rfl (fun H hL => ?_)
  refine lv_icmp_eq (tgt := 769) Xc.1 Xc.2.1 dL_law_178 (by decide) (fun _ => ?_) (fun h => absurd rfl h)
  exact hnext Z1 Z2 H ls hR2 hL hl
set_option maxHeartbeats 4000000 in
theorem lc_agree {p : Program} {l : Launch} {e : Env} {s : State} {m : MethodId} {below : List Frame} {meth : Method} {c : Code} {D : va_G} {B : Nat} {cy : Nat → ClassId} {ad av : Nat → Nat} {b L k : Nat} {xs : Nat → Int32} {RR : Nat → HS → HS → Prop} {SC SM : HS} {H : Heap} {ls : Array Slot} {x3 : Int32} (hq : ∀ (x1 x2 : Int32), LIi RR (fn_X8_agree x1 x2) (fn_X9_agree x1 x2)) (hLn : L ≤ 3072) (Xc : hCX p s m #[Value.ref b] meth c RL cL_law 4 (some .boolean) D cy (AC B) ad av) (Xm : hCX p s m #[Value.ref b] meth c RL cL_law 4 (some .boolean) D cy (AM B) ad av) (hA : ∀ c, 65 ≤ c → AC B (B + c)) (h99 : cy 99 = ad 9) (hX : va_X b L xs s s.heap) (hbl : b < s.heap.size) (hbA : ¬ (fun q : Nat => s.heap.size ≤ q) b) (hk5 : k < 512) (hin : ∀ j, j < 6 → vp_in (x3 + nI j) L)
    (hnext : ∀ (SC SM : HS) (H : Heap) (ls : Array Slot), RR (k + 1) SC SM → LW D B cy SC SM s.heap H → lv_has ls 4 [(0, .ref b), (1, .ref (B + 0)), (2, .ref (B + 24 + 0)), (3, .int x3)] → W p l e room_1 s m #[Value.ref b] below meth c H [] (100 + 140 * (k + 1)) (40000 + 4300 * (k + 1)) (lw_Z below #[Value.ref b] s) (F0 m 769 ls [])) (hR : RR k SC SM) (hL : LW D B cy SC SM s.heap H) (hl : lv_has ls 4 [(0, .ref b), (1, .ref (B + 0)), (2, .ref (B + 24 + 0)), (3, .int x3)]) : W p l e room_1 s m #[Value.ref b] below meth c H [] (100 + 140 * k) (40000 + 4300 * k) (lw_Z below #[Value.ref b] s) (F0 m 183 ls []) := by
  obtain ⟨r, Z1, hf1, hst⟩ := hq (xs (x3 + nI 1).toNatClampNeg) (xs (x3 + nI 2).toNatClampNeg) k SC SM hk5 hR
  refine lv_aload_n Xc.1 Xc.2.1 dL_law_183 rfl (lv_at hl 1 rfl) ?_
  refine lv_aload_n Xc.1 Xc.2.1 dL_law_184 rfl (lv_at hl 0 rfl) ?_
  refine lv_iload_n Xc.1 Xc.2.1 dL_law_185 rfl (lv_at hl 3 rfl) ?_
  refine lv_iconst (v := nI 1) Xc.1 Xc.2.1 dL_law_186 (by decide) ?_
  refine lv_iadd Xc.1 Xc.2.1 dL_law_187 ?_
  refine va_sld Xc.1 Xc.2.1 hX hbl hbA hL.N (hin 1 (by decide)) dL_law_188 ?_
  refine lv_aload_n Xc.1 Xc.2.1 dL_law_189 rfl (lv_at hl 0 rfl) ?_
  refine lv_iload_n Xc.1 Xc.2.1 dL_law_190 rfl (lv_at hl 3 rfl) ?_
  refine lv_iconst (v := nI 2) Xc.1 Xc.2.1 dL_law_191 (by decide) ?_
  refine lv_iadd Xc.1 Xc.2.1 dL_law_192 ?_
  refine va_sld Xc.1 Xc.2.1 hX hbl hbA hL.N (hin 2 (by decide)) dL_law_193 ?_
  refine lw_callC (As := [.int (xs (x3 + nI 1).toNatClampNeg), .int (xs (x3 + nI 2).toNatClampNeg)]) (rest := []) (st1 := [.int r]) Xc hL (c_X8_agree l D B cy (AC B) ad av hA h99 (xs (x3 + nI 1).toNatClampNeg) (xs (x3 + nI 2).toNatClampNeg) hL.C.2.2.2.2.1 hL.C.2.2.2.2.2 hf1) ⟨rfl, rfl, Nat.le_of_ble_eq_true rfl, Nat.le_of_ble_eq_true rfl⟩ tw_160 tw_161 tw_162 tw_163 hd_X8_agree rfl hl.1 rfl (Nat.le_of_ble_eq_true rfl) dL_law_194 ⟨show 100 + 140 * k + 140 ≤ 600000 by omega, show 40000 + 4300 * k + 4300 ≤ 7302250 by omega⟩ rfl (fun H hL => ?_)
  refine W.widen (k := 100 + 140 * (k + 1)) (n := 40000 + 4300 * (k + 1)) (by omega) (by omega) ?_
  obtain ⟨Z2, hf2, hR2⟩ := hst (gZ Z1 - 24) (by have := hL.C.2.2.2.2.2.1; omega)
  refine lv_aload_n Xc.1 Xc.2.1 dL_law_197 rfl (lv_at hl 2 rfl) ?_
  refine lv_aload_n Xc.1 Xc.2.1 dL_law_198 rfl (lv_at hl 0 rfl) ?_
  refine lv_iload_n Xc.1 Xc.2.1 dL_law_199 rfl (lv_at hl 3 rfl) ?_
  refine lv_iconst (v := nI 1) Xc.1 Xc.2.1 dL_law_200 (by decide) ?_
  refine lv_iadd Xc.1 Xc.2.1 dL_law_201 ?_
  refine va_sld Xc.1 Xc.2.1 hX hbl hbA hL.N (hin 1 (by decide)) dL_law_202 ?_
  refine lv_aload_n Xc.1 Xc.2.1 dL_law_203 rfl (lv_at hl 0 rfl) ?_
  refine lv_iload_n Xc.1 Xc.2.1 dL_law_204 rfl (lv_at hl 3 rfl) ?_
  refine lv_iconst (v := nI 2) Xc.1 Xc.2.1 dL_law_205 (by decide) ?_
  refine lv_iadd Xc.1 Xc.2.1 dL_law_206 ?_
  refine va_sld Xc.1 Xc.2.1 hX hbl hbA hL.N (hin 2 (by decide)) dL_law_207 ?_
  refine lw_callM (As := [.int (xs (x3 + nI 1).toNatClampNeg), .int (xs (x3 + nI 2).toNatClampNeg)]) (rest := [.int r]) (st1 := [.int r, .int r]) Xm hL (c_X9_agree l D (B + 24) cy (AM B) ad av (xs (x3 + nI 1).toNatClampNeg) (xs (x3 + nI 2).toNatClampNeg) hL.M.2.2.2.2.1 hL.M.2.2.2.2.2 hf2) ⟨rfl, rfl, Nat.le_of_ble_eq_true rfl, Nat.le_of_ble_eq_true rfl⟩ tw_441 tw_442 tw_443 tw_444 hd_X9_agree rfl hl.1 rfl (Nat.le_of_ble_eq_true rfl) dL_law_208 ⟨show 100 + 140 * (k + 1) ≤ 600000 by omega, show 40000 + 4300 * (k + 1) ≤ 7302250 by omega⟩ rfl (fun H hL => ?_)
  refine lv_icmp_eq (tgt := 769) Xc.1 Xc.2.1 dL_law_211 (by decide) (fun _ => ?_) (fun h => absurd rfl h)
  exact hnext Z1 Z2 H ls hR2 hL hl
set_option maxHeartbeats 4000000 in
theorem lc_fault {p : Program} {l : Launch} {e : Env} {s : State} {m : MethodId} {below : List Frame} {meth : Method} {c : Code} {D : va_G} {B : Nat} {cy : Nat → ClassId} {ad av : Nat → Nat} {b L k : Nat} {xs : Nat → Int32} {RR : Nat → HS → HS → Prop} {SC SM : HS} {H : Heap} {ls : Array Slot} {x3 : Int32} (hq : ∀ (x1 : Int32), LIi RR (fn_X8_fault x1) (fn_X9_fault x1)) (hLn : L ≤ 3072) (Xc : hCX p s m #[Value.ref b] meth c RL cL_law 4 (some .boolean) D cy (AC B) ad av) (Xm : hCX p s m #[Value.ref b] meth c RL cL_law 4 (some .boolean) D cy (AM B) ad av) (hA : ∀ c, 65 ≤ c → AC B (B + c)) (h99 : cy 99 = ad 9) (hX : va_X b L xs s s.heap) (hbl : b < s.heap.size) (hbA : ¬ (fun q : Nat => s.heap.size ≤ q) b) (hk5 : k < 512) (hin : ∀ j, j < 6 → vp_in (x3 + nI j) L)
    (hnext : ∀ (SC SM : HS) (H : Heap) (ls : Array Slot), RR (k + 1) SC SM → LW D B cy SC SM s.heap H → lv_has ls 4 [(0, .ref b), (1, .ref (B + 0)), (2, .ref (B + 24 + 0)), (3, .int x3)] → W p l e room_1 s m #[Value.ref b] below meth c H [] (100 + 140 * (k + 1)) (40000 + 4300 * (k + 1)) (lw_Z below #[Value.ref b] s) (F0 m 769 ls [])) (hR : RR k SC SM) (hL : LW D B cy SC SM s.heap H) (hl : lv_has ls 4 [(0, .ref b), (1, .ref (B + 0)), (2, .ref (B + 24 + 0)), (3, .int x3)]) : W p l e room_1 s m #[Value.ref b] below meth c H [] (100 + 140 * k) (40000 + 4300 * k) (lw_Z below #[Value.ref b] s) (F0 m 216 ls []) := by
  obtain ⟨r, Z1, hf1, hst⟩ := hq (xs (x3 + nI 1).toNatClampNeg) k SC SM hk5 hR
  refine lv_aload_n Xc.1 Xc.2.1 dL_law_216 rfl (lv_at hl 1 rfl) ?_
  refine lv_aload_n Xc.1 Xc.2.1 dL_law_217 rfl (lv_at hl 0 rfl) ?_
  refine lv_iload_n Xc.1 Xc.2.1 dL_law_218 rfl (lv_at hl 3 rfl) ?_
  refine lv_iconst (v := nI 1) Xc.1 Xc.2.1 dL_law_219 (by decide) ?_
  refine lv_iadd Xc.1 Xc.2.1 dL_law_220 ?_
  refine va_sld Xc.1 Xc.2.1 hX hbl hbA hL.N (hin 1 (by decide)) dL_law_221 ?_
  refine lw_callC (As := [.int (xs (x3 + nI 1).toNatClampNeg)]) (rest := []) (st1 := [.int r]) Xc hL (c_X8_fault l D B cy (AC B) ad av (xs (x3 + nI 1).toNatClampNeg) hL.C.2.2.2.2.1 hL.C.2.2.2.2.2 hf1) ⟨rfl, rfl, Nat.le_of_ble_eq_true rfl, Nat.le_of_ble_eq_true rfl⟩ tw_512 tw_513 tw_514 tw_515 hd_X8_fault rfl hl.1 rfl (Nat.le_of_ble_eq_true rfl) dL_law_222 ⟨show 100 + 140 * k + 0 ≤ 600000 by omega, show 40000 + 4300 * k + 0 ≤ 7302250 by omega⟩ rfl (fun H hL => ?_)
  refine W.widen (k := 100 + 140 * (k + 1)) (n := 40000 + 4300 * (k + 1)) (by omega) (by omega) ?_
  obtain ⟨Z2, hf2, hR2⟩ := hst (gZ Z1 - 24) (by have := hL.C.2.2.2.2.2.1; omega)
  refine lv_aload_n Xc.1 Xc.2.1 dL_law_225 rfl (lv_at hl 2 rfl) ?_
  refine lv_aload_n Xc.1 Xc.2.1 dL_law_226 rfl (lv_at hl 0 rfl) ?_
  refine lv_iload_n Xc.1 Xc.2.1 dL_law_227 rfl (lv_at hl 3 rfl) ?_
  refine lv_iconst (v := nI 1) Xc.1 Xc.2.1 dL_law_228 (by decide) ?_
  refine lv_iadd Xc.1 Xc.2.1 dL_law_229 ?_
  refine va_sld Xc.1 Xc.2.1 hX hbl hbA hL.N (hin 1 (by decide)) dL_law_230 ?_
  refine lw_callM (As := [.int (xs (x3 + nI 1).toNatClampNeg)]) (rest := [.int r]) (st1 := [.int r, .int r]) Xm hL (c_X9_fault l D (B + 24) cy (AM B) ad av (xs (x3 + nI 1).toNatClampNeg) hL.M.2.2.2.2.1 hL.M.2.2.2.2.2 hf2) ⟨rfl, rfl, Nat.le_of_ble_eq_true rfl, Nat.le_of_ble_eq_true rfl⟩ tw_517 tw_518 tw_519 tw_520 hd_X9_fault rfl hl.1 rfl (Nat.le_of_ble_eq_true rfl) dL_law_231 ⟨show 100 + 140 * (k + 1) ≤ 600000 by omega, show 40000 + 4300 * (k + 1) ≤ 7302250 by omega⟩ rfl (fun H hL => ?_)
  refine lv_icmp_eq (tgt := 769) Xc.1 Xc.2.1 dL_law_234 (by decide) (fun _ => ?_) (fun h => absurd rfl h)
  exact hnext Z1 Z2 H ls hR2 hL hl
set_option maxHeartbeats 4000000 in
theorem lc_pass {p : Program} {l : Launch} {e : Env} {s : State} {m : MethodId} {below : List Frame} {meth : Method} {c : Code} {D : va_G} {B : Nat} {cy : Nat → ClassId} {ad av : Nat → Nat} {b L k : Nat} {xs : Nat → Int32} {RR : Nat → HS → HS → Prop} {SC SM : HS} {H : Heap} {ls : Array Slot} {x3 : Int32} (hq : ∀ (x1 : Int32), LIi RR (fn_X8_pass x1) (fn_X9_pass x1)) (hLn : L ≤ 3072) (Xc : hCX p s m #[Value.ref b] meth c RL cL_law 4 (some .boolean) D cy (AC B) ad av) (Xm : hCX p s m #[Value.ref b] meth c RL cL_law 4 (some .boolean) D cy (AM B) ad av) (hA : ∀ c, 65 ≤ c → AC B (B + c)) (h99 : cy 99 = ad 9) (hX : va_X b L xs s s.heap) (hbl : b < s.heap.size) (hbA : ¬ (fun q : Nat => s.heap.size ≤ q) b) (hk5 : k < 512) (hin : ∀ j, j < 6 → vp_in (x3 + nI j) L)
    (hnext : ∀ (SC SM : HS) (H : Heap) (ls : Array Slot), RR (k + 1) SC SM → LW D B cy SC SM s.heap H → lv_has ls 4 [(0, .ref b), (1, .ref (B + 0)), (2, .ref (B + 24 + 0)), (3, .int x3)] → W p l e room_1 s m #[Value.ref b] below meth c H [] (100 + 140 * (k + 1)) (40000 + 4300 * (k + 1)) (lw_Z below #[Value.ref b] s) (F0 m 769 ls [])) (hR : RR k SC SM) (hL : LW D B cy SC SM s.heap H) (hl : lv_has ls 4 [(0, .ref b), (1, .ref (B + 0)), (2, .ref (B + 24 + 0)), (3, .int x3)]) : W p l e room_1 s m #[Value.ref b] below meth c H [] (100 + 140 * k) (40000 + 4300 * k) (lw_Z below #[Value.ref b] s) (F0 m 239 ls []) := by
  obtain ⟨r, Z1, hf1, hst⟩ := hq (xs (x3 + nI 1).toNatClampNeg) k SC SM hk5 hR
  refine lv_aload_n Xc.1 Xc.2.1 dL_law_239 rfl (lv_at hl 1 rfl) ?_
  refine lv_aload_n Xc.1 Xc.2.1 dL_law_240 rfl (lv_at hl 0 rfl) ?_
  refine lv_iload_n Xc.1 Xc.2.1 dL_law_241 rfl (lv_at hl 3 rfl) ?_
  refine lv_iconst (v := nI 1) Xc.1 Xc.2.1 dL_law_242 (by decide) ?_
  refine lv_iadd Xc.1 Xc.2.1 dL_law_243 ?_
  refine va_sld Xc.1 Xc.2.1 hX hbl hbA hL.N (hin 1 (by decide)) dL_law_244 ?_
  refine lw_callC (As := [.int (xs (x3 + nI 1).toNatClampNeg)]) (rest := []) (st1 := [.int r]) Xc hL (c_X8_pass l D B cy (AC B) ad av (xs (x3 + nI 1).toNatClampNeg) hL.C.2.2.2.2.1 hL.C.2.2.2.2.2 hf1) ⟨rfl, rfl, Nat.le_of_ble_eq_true rfl, Nat.le_of_ble_eq_true rfl⟩ tw_521 tw_522 tw_523 tw_524 hd_X8_pass rfl hl.1 rfl (Nat.le_of_ble_eq_true rfl) dL_law_245 ⟨show 100 + 140 * k + 0 ≤ 600000 by omega, show 40000 + 4300 * k + 0 ≤ 7302250 by omega⟩ rfl (fun H hL => ?_)
  refine W.widen (k := 100 + 140 * (k + 1)) (n := 40000 + 4300 * (k + 1)) (by omega) (by omega) ?_
  obtain ⟨Z2, hf2, hR2⟩ := hst (gZ Z1 - 24) (by have := hL.C.2.2.2.2.2.1; omega)
  refine lv_aload_n Xc.1 Xc.2.1 dL_law_248 rfl (lv_at hl 2 rfl) ?_
  refine lv_aload_n Xc.1 Xc.2.1 dL_law_249 rfl (lv_at hl 0 rfl) ?_
  refine lv_iload_n Xc.1 Xc.2.1 dL_law_250 rfl (lv_at hl 3 rfl) ?_
  refine lv_iconst (v := nI 1) Xc.1 Xc.2.1 dL_law_251 (by decide) ?_
  refine lv_iadd Xc.1 Xc.2.1 dL_law_252 ?_
  refine va_sld Xc.1 Xc.2.1 hX hbl hbA hL.N (hin 1 (by decide)) dL_law_253 ?_
  refine lw_callM (As := [.int (xs (x3 + nI 1).toNatClampNeg)]) (rest := [.int r]) (st1 := [.int r, .int r]) Xm hL (c_X9_pass l D (B + 24) cy (AM B) ad av (xs (x3 + nI 1).toNatClampNeg) hL.M.2.2.2.2.1 hL.M.2.2.2.2.2 hf2) ⟨rfl, rfl, Nat.le_of_ble_eq_true rfl, Nat.le_of_ble_eq_true rfl⟩ tw_525 tw_526 tw_527 tw_528 hd_X9_pass rfl hl.1 rfl (Nat.le_of_ble_eq_true rfl) dL_law_254 ⟨show 100 + 140 * (k + 1) ≤ 600000 by omega, show 40000 + 4300 * (k + 1) ≤ 7302250 by omega⟩ rfl (fun H hL => ?_)
  refine lv_icmp_eq (tgt := 769) Xc.1 Xc.2.1 dL_law_257 (by decide) (fun _ => ?_) (fun h => absurd rfl h)
  exact hnext Z1 Z2 H ls hR2 hL hl
set_option maxHeartbeats 4000000 in
theorem lc_post {p : Program} {l : Launch} {e : Env} {s : State} {m : MethodId} {below : List Frame} {meth : Method} {c : Code} {D : va_G} {B : Nat} {cy : Nat → ClassId} {ad av : Nat → Nat} {b L k : Nat} {xs : Nat → Int32} {RR : Nat → HS → HS → Prop} {SC SM : HS} {H : Heap} {ls : Array Slot} {x3 : Int32} (hq : ∀ (x1 : Int32), LIi RR (fn_X8_post x1) (fn_X9_post x1)) (hLn : L ≤ 3072) (Xc : hCX p s m #[Value.ref b] meth c RL cL_law 4 (some .boolean) D cy (AC B) ad av) (Xm : hCX p s m #[Value.ref b] meth c RL cL_law 4 (some .boolean) D cy (AM B) ad av) (hA : ∀ c, 65 ≤ c → AC B (B + c)) (h99 : cy 99 = ad 9) (hX : va_X b L xs s s.heap) (hbl : b < s.heap.size) (hbA : ¬ (fun q : Nat => s.heap.size ≤ q) b) (hk5 : k < 512) (hin : ∀ j, j < 6 → vp_in (x3 + nI j) L)
    (hnext : ∀ (SC SM : HS) (H : Heap) (ls : Array Slot), RR (k + 1) SC SM → LW D B cy SC SM s.heap H → lv_has ls 4 [(0, .ref b), (1, .ref (B + 0)), (2, .ref (B + 24 + 0)), (3, .int x3)] → W p l e room_1 s m #[Value.ref b] below meth c H [] (100 + 140 * (k + 1)) (40000 + 4300 * (k + 1)) (lw_Z below #[Value.ref b] s) (F0 m 769 ls [])) (hR : RR k SC SM) (hL : LW D B cy SC SM s.heap H) (hl : lv_has ls 4 [(0, .ref b), (1, .ref (B + 0)), (2, .ref (B + 24 + 0)), (3, .int x3)]) : W p l e room_1 s m #[Value.ref b] below meth c H [] (100 + 140 * k) (40000 + 4300 * k) (lw_Z below #[Value.ref b] s) (F0 m 262 ls []) := by
  obtain ⟨r, Z1, hf1, hst⟩ := hq (xs (x3 + nI 1).toNatClampNeg) k SC SM hk5 hR
  refine lv_aload_n Xc.1 Xc.2.1 dL_law_262 rfl (lv_at hl 1 rfl) ?_
  refine lv_aload_n Xc.1 Xc.2.1 dL_law_263 rfl (lv_at hl 0 rfl) ?_
  refine lv_iload_n Xc.1 Xc.2.1 dL_law_264 rfl (lv_at hl 3 rfl) ?_
  refine lv_iconst (v := nI 1) Xc.1 Xc.2.1 dL_law_265 (by decide) ?_
  refine lv_iadd Xc.1 Xc.2.1 dL_law_266 ?_
  refine va_sld Xc.1 Xc.2.1 hX hbl hbA hL.N (hin 1 (by decide)) dL_law_267 ?_
  refine lw_callC (As := [.int (xs (x3 + nI 1).toNatClampNeg)]) (rest := []) (st1 := [.int r]) Xc hL (c_X8_post l D B cy (AC B) ad av (xs (x3 + nI 1).toNatClampNeg) hL.C.2.2.2.2.1 hL.C.2.2.2.2.2 hf1) ⟨rfl, rfl, Nat.le_of_ble_eq_true rfl, Nat.le_of_ble_eq_true rfl⟩ tw_529 tw_530 tw_531 tw_532 hd_X8_post rfl hl.1 rfl (Nat.le_of_ble_eq_true rfl) dL_law_268 ⟨show 100 + 140 * k + 0 ≤ 600000 by omega, show 40000 + 4300 * k + 0 ≤ 7302250 by omega⟩ rfl (fun H hL => ?_)
  refine W.widen (k := 100 + 140 * (k + 1)) (n := 40000 + 4300 * (k + 1)) (by omega) (by omega) ?_
  obtain ⟨Z2, hf2, hR2⟩ := hst (gZ Z1 - 24) (by have := hL.C.2.2.2.2.2.1; omega)
  refine lv_aload_n Xc.1 Xc.2.1 dL_law_271 rfl (lv_at hl 2 rfl) ?_
  refine lv_aload_n Xc.1 Xc.2.1 dL_law_272 rfl (lv_at hl 0 rfl) ?_
  refine lv_iload_n Xc.1 Xc.2.1 dL_law_273 rfl (lv_at hl 3 rfl) ?_
  refine lv_iconst (v := nI 1) Xc.1 Xc.2.1 dL_law_274 (by decide) ?_
  refine lv_iadd Xc.1 Xc.2.1 dL_law_275 ?_
  refine va_sld Xc.1 Xc.2.1 hX hbl hbA hL.N (hin 1 (by decide)) dL_law_276 ?_
  refine lw_callM (As := [.int (xs (x3 + nI 1).toNatClampNeg)]) (rest := [.int r]) (st1 := [.int r, .int r]) Xm hL (c_X9_post l D (B + 24) cy (AM B) ad av (xs (x3 + nI 1).toNatClampNeg) hL.M.2.2.2.2.1 hL.M.2.2.2.2.2 hf2) ⟨rfl, rfl, Nat.le_of_ble_eq_true rfl, Nat.le_of_ble_eq_true rfl⟩ tw_534 tw_535 tw_536 tw_537 hd_X9_post rfl hl.1 rfl (Nat.le_of_ble_eq_true rfl) dL_law_277 ⟨show 100 + 140 * (k + 1) ≤ 600000 by omega, show 40000 + 4300 * (k + 1) ≤ 7302250 by omega⟩ rfl (fun H hL => ?_)
  refine lv_icmp_eq (tgt := 769) Xc.1 Xc.2.1 dL_law_280 (by decide) (fun _ => ?_) (fun h => absurd rfl h)
  exact hnext Z1 Z2 H ls hR2 hL hl
set_option maxHeartbeats 4000000 in
theorem lc_note {p : Program} {l : Launch} {e : Env} {s : State} {m : MethodId} {below : List Frame} {meth : Method} {c : Code} {D : va_G} {B : Nat} {cy : Nat → ClassId} {ad av : Nat → Nat} {b L k : Nat} {xs : Nat → Int32} {RR : Nat → HS → HS → Prop} {SC SM : HS} {H : Heap} {ls : Array Slot} {x3 : Int32} (hq : ∀ (x1 x2 x3 x4 : Int32), LIi RR (fn_X8_note x1 x2 x3 x4) (fn_X9_note x1 x2 x3 x4)) (hLn : L ≤ 3072) (Xc : hCX p s m #[Value.ref b] meth c RL cL_law 4 (some .boolean) D cy (AC B) ad av) (Xm : hCX p s m #[Value.ref b] meth c RL cL_law 4 (some .boolean) D cy (AM B) ad av) (hA : ∀ c, 65 ≤ c → AC B (B + c)) (h99 : cy 99 = ad 9) (hX : va_X b L xs s s.heap) (hbl : b < s.heap.size) (hbA : ¬ (fun q : Nat => s.heap.size ≤ q) b) (hk5 : k < 512) (hin : ∀ j, j < 6 → vp_in (x3 + nI j) L)
    (hnext : ∀ (SC SM : HS) (H : Heap) (ls : Array Slot), RR (k + 1) SC SM → LW D B cy SC SM s.heap H → lv_has ls 4 [(0, .ref b), (1, .ref (B + 0)), (2, .ref (B + 24 + 0)), (3, .int x3)] → W p l e room_1 s m #[Value.ref b] below meth c H [] (100 + 140 * (k + 1)) (40000 + 4300 * (k + 1)) (lw_Z below #[Value.ref b] s) (F0 m 769 ls [])) (hR : RR k SC SM) (hL : LW D B cy SC SM s.heap H) (hl : lv_has ls 4 [(0, .ref b), (1, .ref (B + 0)), (2, .ref (B + 24 + 0)), (3, .int x3)]) : W p l e room_1 s m #[Value.ref b] below meth c H [] (100 + 140 * k) (40000 + 4300 * k) (lw_Z below #[Value.ref b] s) (F0 m 285 ls []) := by
  obtain ⟨r, Z1, hf1, hst⟩ := hq (xs (x3 + nI 1).toNatClampNeg) (xs (x3 + nI 2).toNatClampNeg) (xs (x3 + nI 3).toNatClampNeg) (xs (x3 + nI 4).toNatClampNeg) k SC SM hk5 hR
  refine lv_aload_n Xc.1 Xc.2.1 dL_law_285 rfl (lv_at hl 1 rfl) ?_
  refine lv_aload_n Xc.1 Xc.2.1 dL_law_286 rfl (lv_at hl 0 rfl) ?_
  refine lv_iload_n Xc.1 Xc.2.1 dL_law_287 rfl (lv_at hl 3 rfl) ?_
  refine lv_iconst (v := nI 1) Xc.1 Xc.2.1 dL_law_288 (by decide) ?_
  refine lv_iadd Xc.1 Xc.2.1 dL_law_289 ?_
  refine va_sld Xc.1 Xc.2.1 hX hbl hbA hL.N (hin 1 (by decide)) dL_law_290 ?_
  refine lv_aload_n Xc.1 Xc.2.1 dL_law_291 rfl (lv_at hl 0 rfl) ?_
  refine lv_iload_n Xc.1 Xc.2.1 dL_law_292 rfl (lv_at hl 3 rfl) ?_
  refine lv_iconst (v := nI 2) Xc.1 Xc.2.1 dL_law_293 (by decide) ?_
  refine lv_iadd Xc.1 Xc.2.1 dL_law_294 ?_
  refine va_sld Xc.1 Xc.2.1 hX hbl hbA hL.N (hin 2 (by decide)) dL_law_295 ?_
  refine lv_aload_n Xc.1 Xc.2.1 dL_law_296 rfl (lv_at hl 0 rfl) ?_
  refine lv_iload_n Xc.1 Xc.2.1 dL_law_297 rfl (lv_at hl 3 rfl) ?_
  refine lv_iconst (v := nI 3) Xc.1 Xc.2.1 dL_law_298 (by decide) ?_
  refine lv_iadd Xc.1 Xc.2.1 dL_law_299 ?_
  refine va_sld Xc.1 Xc.2.1 hX hbl hbA hL.N (hin 3 (by decide)) dL_law_300 ?_
  refine lv_aload_n Xc.1 Xc.2.1 dL_law_301 rfl (lv_at hl 0 rfl) ?_
  refine lv_iload_n Xc.1 Xc.2.1 dL_law_302 rfl (lv_at hl 3 rfl) ?_
  refine lv_iconst (v := nI 4) Xc.1 Xc.2.1 dL_law_303 (by decide) ?_
  refine lv_iadd Xc.1 Xc.2.1 dL_law_304 ?_
  refine va_sld Xc.1 Xc.2.1 hX hbl hbA hL.N (hin 4 (by decide)) dL_law_305 ?_
  refine lw_callC (As := [.int (xs (x3 + nI 1).toNatClampNeg), .int (xs (x3 + nI 2).toNatClampNeg), .int (xs (x3 + nI 3).toNatClampNeg), .int (xs (x3 + nI 4).toNatClampNeg)]) (rest := []) (st1 := [.int r]) Xc hL (c_X8_note l D B cy (AC B) ad av hA h99 (xs (x3 + nI 1).toNatClampNeg) (xs (x3 + nI 2).toNatClampNeg) (xs (x3 + nI 3).toNatClampNeg) (xs (x3 + nI 4).toNatClampNeg) hL.C.2.2.2.2.1 hL.C.2.2.2.2.2 hf1) ⟨rfl, rfl, Nat.le_of_ble_eq_true rfl, Nat.le_of_ble_eq_true rfl⟩ tw_539 tw_540 tw_541 tw_542 hd_X8_note rfl hl.1 rfl (Nat.le_of_ble_eq_true rfl) dL_law_306 ⟨show 100 + 140 * k + 2 ≤ 600000 by omega, show 40000 + 4300 * k + 305 ≤ 7302250 by omega⟩ rfl (fun H hL => ?_)
  refine W.widen (k := 100 + 140 * (k + 1)) (n := 40000 + 4300 * (k + 1)) (by omega) (by omega) ?_
  obtain ⟨Z2, hf2, hR2⟩ := hst (gZ Z1 - 24) (by have := hL.C.2.2.2.2.2.1; omega)
  refine lv_aload_n Xc.1 Xc.2.1 dL_law_309 rfl (lv_at hl 2 rfl) ?_
  refine lv_aload_n Xc.1 Xc.2.1 dL_law_310 rfl (lv_at hl 0 rfl) ?_
  refine lv_iload_n Xc.1 Xc.2.1 dL_law_311 rfl (lv_at hl 3 rfl) ?_
  refine lv_iconst (v := nI 1) Xc.1 Xc.2.1 dL_law_312 (by decide) ?_
  refine lv_iadd Xc.1 Xc.2.1 dL_law_313 ?_
  refine va_sld Xc.1 Xc.2.1 hX hbl hbA hL.N (hin 1 (by decide)) dL_law_314 ?_
  refine lv_aload_n Xc.1 Xc.2.1 dL_law_315 rfl (lv_at hl 0 rfl) ?_
  refine lv_iload_n Xc.1 Xc.2.1 dL_law_316 rfl (lv_at hl 3 rfl) ?_
  refine lv_iconst (v := nI 2) Xc.1 Xc.2.1 dL_law_317 (by decide) ?_
  refine lv_iadd Xc.1 Xc.2.1 dL_law_318 ?_
  refine va_sld Xc.1 Xc.2.1 hX hbl hbA hL.N (hin 2 (by decide)) dL_law_319 ?_
  refine lv_aload_n Xc.1 Xc.2.1 dL_law_320 rfl (lv_at hl 0 rfl) ?_
  refine lv_iload_n Xc.1 Xc.2.1 dL_law_321 rfl (lv_at hl 3 rfl) ?_
  refine lv_iconst (v := nI 3) Xc.1 Xc.2.1 dL_law_322 (by decide) ?_
  refine lv_iadd Xc.1 Xc.2.1 dL_law_323 ?_
  refine va_sld Xc.1 Xc.2.1 hX hbl hbA hL.N (hin 3 (by decide)) dL_law_324 ?_
  refine lv_aload_n Xc.1 Xc.2.1 dL_law_325 rfl (lv_at hl 0 rfl) ?_
  refine lv_iload_n Xc.1 Xc.2.1 dL_law_326 rfl (lv_at hl 3 rfl) ?_
  refine lv_iconst (v := nI 4) Xc.1 Xc.2.1 dL_law_327 (by decide) ?_
  refine lv_iadd Xc.1 Xc.2.1 dL_law_328 ?_
  refine va_sld Xc.1 Xc.2.1 hX hbl hbA hL.N (hin 4 (by decide)) dL_law_329 ?_
  refine lw_callM (As := [.int (xs (x3 + nI 1).toNatClampNeg), .int (xs (x3 + nI 2).toNatClampNeg), .int (xs (x3 + nI 3).toNatClampNeg), .int (xs (x3 + nI 4).toNatClampNeg)]) (rest := [.int r]) (st1 := [.int r, .int r]) Xm hL (c_X9_note l D (B + 24) cy (AM B) ad av (xs (x3 + nI 1).toNatClampNeg) (xs (x3 + nI 2).toNatClampNeg) (xs (x3 + nI 3).toNatClampNeg) (xs (x3 + nI 4).toNatClampNeg) hL.M.2.2.2.2.1 hL.M.2.2.2.2.2 hf2) ⟨rfl, rfl, Nat.le_of_ble_eq_true rfl, Nat.le_of_ble_eq_true rfl⟩ tw_571 tw_572 tw_573 tw_574 hd_X9_note rfl hl.1 rfl (Nat.le_of_ble_eq_true rfl) dL_law_330 ⟨show 100 + 140 * (k + 1) ≤ 600000 by omega, show 40000 + 4300 * (k + 1) ≤ 7302250 by omega⟩ rfl (fun H hL => ?_)
  refine lv_icmp_eq (tgt := 769) Xc.1 Xc.2.1 dL_law_333 (by decide) (fun _ => ?_) (fun h => absurd rfl h)
  exact hnext Z1 Z2 H ls hR2 hL hl
set_option maxHeartbeats 4000000 in
theorem lc_look {p : Program} {l : Launch} {e : Env} {s : State} {m : MethodId} {below : List Frame} {meth : Method} {c : Code} {D : va_G} {B : Nat} {cy : Nat → ClassId} {ad av : Nat → Nat} {b L k : Nat} {xs : Nat → Int32} {RR : Nat → HS → HS → Prop} {SC SM : HS} {H : Heap} {ls : Array Slot} {x3 : Int32} (hq : ∀ (x1 x2 x3 x4 : Int32), LIi RR (fn_X8_look x1 x2 x3 x4) (fn_X9_look x1 x2 x3 x4)) (hLn : L ≤ 3072) (Xc : hCX p s m #[Value.ref b] meth c RL cL_law 4 (some .boolean) D cy (AC B) ad av) (Xm : hCX p s m #[Value.ref b] meth c RL cL_law 4 (some .boolean) D cy (AM B) ad av) (hA : ∀ c, 65 ≤ c → AC B (B + c)) (h99 : cy 99 = ad 9) (hX : va_X b L xs s s.heap) (hbl : b < s.heap.size) (hbA : ¬ (fun q : Nat => s.heap.size ≤ q) b) (hk5 : k < 512) (hin : ∀ j, j < 6 → vp_in (x3 + nI j) L)
    (hnext : ∀ (SC SM : HS) (H : Heap) (ls : Array Slot), RR (k + 1) SC SM → LW D B cy SC SM s.heap H → lv_has ls 4 [(0, .ref b), (1, .ref (B + 0)), (2, .ref (B + 24 + 0)), (3, .int x3)] → W p l e room_1 s m #[Value.ref b] below meth c H [] (100 + 140 * (k + 1)) (40000 + 4300 * (k + 1)) (lw_Z below #[Value.ref b] s) (F0 m 769 ls [])) (hR : RR k SC SM) (hL : LW D B cy SC SM s.heap H) (hl : lv_has ls 4 [(0, .ref b), (1, .ref (B + 0)), (2, .ref (B + 24 + 0)), (3, .int x3)]) : W p l e room_1 s m #[Value.ref b] below meth c H [] (100 + 140 * k) (40000 + 4300 * k) (lw_Z below #[Value.ref b] s) (F0 m 338 ls []) := by
  obtain ⟨r, Z1, hf1, hst⟩ := hq (xs (x3 + nI 1).toNatClampNeg) (xs (x3 + nI 2).toNatClampNeg) (xs (x3 + nI 3).toNatClampNeg) (xs (x3 + nI 4).toNatClampNeg) k SC SM hk5 hR
  refine lv_aload_n Xc.1 Xc.2.1 dL_law_338 rfl (lv_at hl 1 rfl) ?_
  refine lv_aload_n Xc.1 Xc.2.1 dL_law_339 rfl (lv_at hl 0 rfl) ?_
  refine lv_iload_n Xc.1 Xc.2.1 dL_law_340 rfl (lv_at hl 3 rfl) ?_
  refine lv_iconst (v := nI 1) Xc.1 Xc.2.1 dL_law_341 (by decide) ?_
  refine lv_iadd Xc.1 Xc.2.1 dL_law_342 ?_
  refine va_sld Xc.1 Xc.2.1 hX hbl hbA hL.N (hin 1 (by decide)) dL_law_343 ?_
  refine lv_aload_n Xc.1 Xc.2.1 dL_law_344 rfl (lv_at hl 0 rfl) ?_
  refine lv_iload_n Xc.1 Xc.2.1 dL_law_345 rfl (lv_at hl 3 rfl) ?_
  refine lv_iconst (v := nI 2) Xc.1 Xc.2.1 dL_law_346 (by decide) ?_
  refine lv_iadd Xc.1 Xc.2.1 dL_law_347 ?_
  refine va_sld Xc.1 Xc.2.1 hX hbl hbA hL.N (hin 2 (by decide)) dL_law_348 ?_
  refine lv_aload_n Xc.1 Xc.2.1 dL_law_349 rfl (lv_at hl 0 rfl) ?_
  refine lv_iload_n Xc.1 Xc.2.1 dL_law_350 rfl (lv_at hl 3 rfl) ?_
  refine lv_iconst (v := nI 3) Xc.1 Xc.2.1 dL_law_351 (by decide) ?_
  refine lv_iadd Xc.1 Xc.2.1 dL_law_352 ?_
  refine va_sld Xc.1 Xc.2.1 hX hbl hbA hL.N (hin 3 (by decide)) dL_law_353 ?_
  refine lv_aload_n Xc.1 Xc.2.1 dL_law_354 rfl (lv_at hl 0 rfl) ?_
  refine lv_iload_n Xc.1 Xc.2.1 dL_law_355 rfl (lv_at hl 3 rfl) ?_
  refine lv_iconst (v := nI 4) Xc.1 Xc.2.1 dL_law_356 (by decide) ?_
  refine lv_iadd Xc.1 Xc.2.1 dL_law_357 ?_
  refine va_sld Xc.1 Xc.2.1 hX hbl hbA hL.N (hin 4 (by decide)) dL_law_358 ?_
  refine lw_callC (As := [.int (xs (x3 + nI 1).toNatClampNeg), .int (xs (x3 + nI 2).toNatClampNeg), .int (xs (x3 + nI 3).toNatClampNeg), .int (xs (x3 + nI 4).toNatClampNeg)]) (rest := []) (st1 := [.int r]) Xc hL (c_X8_look l D B cy (AC B) ad av (xs (x3 + nI 1).toNatClampNeg) (xs (x3 + nI 2).toNatClampNeg) (xs (x3 + nI 3).toNatClampNeg) (xs (x3 + nI 4).toNatClampNeg) hL.C.2.2.2.2.1 hL.C.2.2.2.2.2 hf1) ⟨rfl, rfl, Nat.le_of_ble_eq_true rfl, Nat.le_of_ble_eq_true rfl⟩ tw_579 tw_580 tw_581 tw_582 hd_X8_look rfl hl.1 rfl (Nat.le_of_ble_eq_true rfl) dL_law_359 ⟨show 100 + 140 * k + 0 ≤ 600000 by omega, show 40000 + 4300 * k + 0 ≤ 7302250 by omega⟩ rfl (fun H hL => ?_)
  refine W.widen (k := 100 + 140 * (k + 1)) (n := 40000 + 4300 * (k + 1)) (by omega) (by omega) ?_
  obtain ⟨Z2, hf2, hR2⟩ := hst (gZ Z1 - 24) (by have := hL.C.2.2.2.2.2.1; omega)
  refine lv_aload_n Xc.1 Xc.2.1 dL_law_362 rfl (lv_at hl 2 rfl) ?_
  refine lv_aload_n Xc.1 Xc.2.1 dL_law_363 rfl (lv_at hl 0 rfl) ?_
  refine lv_iload_n Xc.1 Xc.2.1 dL_law_364 rfl (lv_at hl 3 rfl) ?_
  refine lv_iconst (v := nI 1) Xc.1 Xc.2.1 dL_law_365 (by decide) ?_
  refine lv_iadd Xc.1 Xc.2.1 dL_law_366 ?_
  refine va_sld Xc.1 Xc.2.1 hX hbl hbA hL.N (hin 1 (by decide)) dL_law_367 ?_
  refine lv_aload_n Xc.1 Xc.2.1 dL_law_368 rfl (lv_at hl 0 rfl) ?_
  refine lv_iload_n Xc.1 Xc.2.1 dL_law_369 rfl (lv_at hl 3 rfl) ?_
  refine lv_iconst (v := nI 2) Xc.1 Xc.2.1 dL_law_370 (by decide) ?_
  refine lv_iadd Xc.1 Xc.2.1 dL_law_371 ?_
  refine va_sld Xc.1 Xc.2.1 hX hbl hbA hL.N (hin 2 (by decide)) dL_law_372 ?_
  refine lv_aload_n Xc.1 Xc.2.1 dL_law_373 rfl (lv_at hl 0 rfl) ?_
  refine lv_iload_n Xc.1 Xc.2.1 dL_law_374 rfl (lv_at hl 3 rfl) ?_
  refine lv_iconst (v := nI 3) Xc.1 Xc.2.1 dL_law_375 (by decide) ?_
  refine lv_iadd Xc.1 Xc.2.1 dL_law_376 ?_
  refine va_sld Xc.1 Xc.2.1 hX hbl hbA hL.N (hin 3 (by decide)) dL_law_377 ?_
  refine lv_aload_n Xc.1 Xc.2.1 dL_law_378 rfl (lv_at hl 0 rfl) ?_
  refine lv_iload_n Xc.1 Xc.2.1 dL_law_379 rfl (lv_at hl 3 rfl) ?_
  refine lv_iconst (v := nI 4) Xc.1 Xc.2.1 dL_law_380 (by decide) ?_
  refine lv_iadd Xc.1 Xc.2.1 dL_law_381 ?_
  refine va_sld Xc.1 Xc.2.1 hX hbl hbA hL.N (hin 4 (by decide)) dL_law_382 ?_
  refine lw_callM (As := [.int (xs (x3 + nI 1).toNatClampNeg), .int (xs (x3 + nI 2).toNatClampNeg), .int (xs (x3 + nI 3).toNatClampNeg), .int (xs (x3 + nI 4).toNatClampNeg)]) (rest := [.int r]) (st1 := [.int r, .int r]) Xm hL (c_X9_look l D (B + 24) cy (AM B) ad av (xs (x3 + nI 1).toNatClampNeg) (xs (x3 + nI 2).toNatClampNeg) (xs (x3 + nI 3).toNatClampNeg) (xs (x3 + nI 4).toNatClampNeg) hL.M.2.2.2.2.1 hL.M.2.2.2.2.2 hf2) ⟨rfl, rfl, Nat.le_of_ble_eq_true rfl, Nat.le_of_ble_eq_true rfl⟩ tw_747 tw_748 tw_749 tw_750 hd_X9_look rfl hl.1 rfl (Nat.le_of_ble_eq_true rfl) dL_law_383 ⟨show 100 + 140 * (k + 1) ≤ 600000 by omega, show 40000 + 4300 * (k + 1) ≤ 7302250 by omega⟩ rfl (fun H hL => ?_)
  refine lv_icmp_eq (tgt := 769) Xc.1 Xc.2.1 dL_law_386 (by decide) (fun _ => ?_) (fun h => absurd rfl h)
  exact hnext Z1 Z2 H ls hR2 hL hl
set_option maxHeartbeats 4000000 in
theorem lc_pay {p : Program} {l : Launch} {e : Env} {s : State} {m : MethodId} {below : List Frame} {meth : Method} {c : Code} {D : va_G} {B : Nat} {cy : Nat → ClassId} {ad av : Nat → Nat} {b L k : Nat} {xs : Nat → Int32} {RR : Nat → HS → HS → Prop} {SC SM : HS} {H : Heap} {ls : Array Slot} {x3 : Int32} (hq : ∀ (x1 x2 x3 : Int32), LIl RR (fn_X8_pay x1 x2 x3) (fn_X9_pay x1 x2 x3)) (hLn : L ≤ 3072) (Xc : hCX p s m #[Value.ref b] meth c RL cL_law 4 (some .boolean) D cy (AC B) ad av) (Xm : hCX p s m #[Value.ref b] meth c RL cL_law 4 (some .boolean) D cy (AM B) ad av) (hA : ∀ c, 65 ≤ c → AC B (B + c)) (h99 : cy 99 = ad 9) (hX : va_X b L xs s s.heap) (hbl : b < s.heap.size) (hbA : ¬ (fun q : Nat => s.heap.size ≤ q) b) (hk5 : k < 512) (hin : ∀ j, j < 6 → vp_in (x3 + nI j) L)
    (hnext : ∀ (SC SM : HS) (H : Heap) (ls : Array Slot), RR (k + 1) SC SM → LW D B cy SC SM s.heap H → lv_has ls 4 [(0, .ref b), (1, .ref (B + 0)), (2, .ref (B + 24 + 0)), (3, .int x3)] → W p l e room_1 s m #[Value.ref b] below meth c H [] (100 + 140 * (k + 1)) (40000 + 4300 * (k + 1)) (lw_Z below #[Value.ref b] s) (F0 m 769 ls [])) (hR : RR k SC SM) (hL : LW D B cy SC SM s.heap H) (hl : lv_has ls 4 [(0, .ref b), (1, .ref (B + 0)), (2, .ref (B + 24 + 0)), (3, .int x3)]) : W p l e room_1 s m #[Value.ref b] below meth c H [] (100 + 140 * k) (40000 + 4300 * k) (lw_Z below #[Value.ref b] s) (F0 m 391 ls []) := by
  obtain ⟨r, Z1, hf1, hst⟩ := hq (xs (x3 + nI 1).toNatClampNeg) (xs (x3 + nI 2).toNatClampNeg) (xs (x3 + nI 3).toNatClampNeg) k SC SM hk5 hR
  refine lv_aload_n Xc.1 Xc.2.1 dL_law_391 rfl (lv_at hl 1 rfl) ?_
  refine lv_aload_n Xc.1 Xc.2.1 dL_law_392 rfl (lv_at hl 0 rfl) ?_
  refine lv_iload_n Xc.1 Xc.2.1 dL_law_393 rfl (lv_at hl 3 rfl) ?_
  refine lv_iconst (v := nI 1) Xc.1 Xc.2.1 dL_law_394 (by decide) ?_
  refine lv_iadd Xc.1 Xc.2.1 dL_law_395 ?_
  refine va_sld Xc.1 Xc.2.1 hX hbl hbA hL.N (hin 1 (by decide)) dL_law_396 ?_
  refine lv_aload_n Xc.1 Xc.2.1 dL_law_397 rfl (lv_at hl 0 rfl) ?_
  refine lv_iload_n Xc.1 Xc.2.1 dL_law_398 rfl (lv_at hl 3 rfl) ?_
  refine lv_iconst (v := nI 2) Xc.1 Xc.2.1 dL_law_399 (by decide) ?_
  refine lv_iadd Xc.1 Xc.2.1 dL_law_400 ?_
  refine va_sld Xc.1 Xc.2.1 hX hbl hbA hL.N (hin 2 (by decide)) dL_law_401 ?_
  refine lv_aload_n Xc.1 Xc.2.1 dL_law_402 rfl (lv_at hl 0 rfl) ?_
  refine lv_iload_n Xc.1 Xc.2.1 dL_law_403 rfl (lv_at hl 3 rfl) ?_
  refine lv_iconst (v := nI 3) Xc.1 Xc.2.1 dL_law_404 (by decide) ?_
  refine lv_iadd Xc.1 Xc.2.1 dL_law_405 ?_
  refine va_sld Xc.1 Xc.2.1 hX hbl hbA hL.N (hin 3 (by decide)) dL_law_406 ?_
  refine lw_callC (As := [.int (xs (x3 + nI 1).toNatClampNeg), .int (xs (x3 + nI 2).toNatClampNeg), .int (xs (x3 + nI 3).toNatClampNeg)]) (rest := []) (st1 := [.long r]) Xc hL (c_X8_pay l D B cy (AC B) ad av (xs (x3 + nI 1).toNatClampNeg) (xs (x3 + nI 2).toNatClampNeg) (xs (x3 + nI 3).toNatClampNeg) hL.C.2.2.2.2.1 hL.C.2.2.2.2.2 hf1) ⟨rfl, rfl, Nat.le_of_ble_eq_true rfl, Nat.le_of_ble_eq_true rfl⟩ tw_802 tw_803 tw_804 tw_805 hd_X8_pay rfl hl.1 rfl (Nat.le_of_ble_eq_true rfl) dL_law_407 ⟨show 100 + 140 * k + 0 ≤ 600000 by omega, show 40000 + 4300 * k + 0 ≤ 7302250 by omega⟩ rfl (fun H hL => ?_)
  refine W.widen (k := 100 + 140 * (k + 1)) (n := 40000 + 4300 * (k + 1)) (by omega) (by omega) ?_
  obtain ⟨Z2, hf2, hR2⟩ := hst (gZ Z1 - 24) (by have := hL.C.2.2.2.2.2.1; omega)
  refine lv_aload_n Xc.1 Xc.2.1 dL_law_410 rfl (lv_at hl 2 rfl) ?_
  refine lv_aload_n Xc.1 Xc.2.1 dL_law_411 rfl (lv_at hl 0 rfl) ?_
  refine lv_iload_n Xc.1 Xc.2.1 dL_law_412 rfl (lv_at hl 3 rfl) ?_
  refine lv_iconst (v := nI 1) Xc.1 Xc.2.1 dL_law_413 (by decide) ?_
  refine lv_iadd Xc.1 Xc.2.1 dL_law_414 ?_
  refine va_sld Xc.1 Xc.2.1 hX hbl hbA hL.N (hin 1 (by decide)) dL_law_415 ?_
  refine lv_aload_n Xc.1 Xc.2.1 dL_law_416 rfl (lv_at hl 0 rfl) ?_
  refine lv_iload_n Xc.1 Xc.2.1 dL_law_417 rfl (lv_at hl 3 rfl) ?_
  refine lv_iconst (v := nI 2) Xc.1 Xc.2.1 dL_law_418 (by decide) ?_
  refine lv_iadd Xc.1 Xc.2.1 dL_law_419 ?_
  refine va_sld Xc.1 Xc.2.1 hX hbl hbA hL.N (hin 2 (by decide)) dL_law_420 ?_
  refine lv_aload_n Xc.1 Xc.2.1 dL_law_421 rfl (lv_at hl 0 rfl) ?_
  refine lv_iload_n Xc.1 Xc.2.1 dL_law_422 rfl (lv_at hl 3 rfl) ?_
  refine lv_iconst (v := nI 3) Xc.1 Xc.2.1 dL_law_423 (by decide) ?_
  refine lv_iadd Xc.1 Xc.2.1 dL_law_424 ?_
  refine va_sld Xc.1 Xc.2.1 hX hbl hbA hL.N (hin 3 (by decide)) dL_law_425 ?_
  refine lw_callM (As := [.int (xs (x3 + nI 1).toNatClampNeg), .int (xs (x3 + nI 2).toNatClampNeg), .int (xs (x3 + nI 3).toNatClampNeg)]) (rest := [.long r]) (st1 := [.long r, .long r]) Xm hL (c_X9_pay l D (B + 24) cy (AM B) ad av (xs (x3 + nI 1).toNatClampNeg) (xs (x3 + nI 2).toNatClampNeg) (xs (x3 + nI 3).toNatClampNeg) hL.M.2.2.2.2.1 hL.M.2.2.2.2.2 hf2) ⟨rfl, rfl, Nat.le_of_ble_eq_true rfl, Nat.le_of_ble_eq_true rfl⟩ tw_812 tw_813 tw_814 tw_815 hd_X9_pay rfl hl.1 rfl (Nat.le_of_ble_eq_true rfl) dL_law_426 ⟨show 100 + 140 * (k + 1) ≤ 600000 by omega, show 40000 + 4300 * (k + 1) ≤ 7302250 by omega⟩ rfl (fun H hL => ?_)
  refine W.lcmp Xc.1 Xc.2.1 dL_law_429 ?_
  rw [lg_cmp_self]
  refine lv_if_eq (tgt := 769) Xc.1 Xc.2.1 dL_law_430 (by decide) (fun _ => ?_) (fun h => absurd rfl h)
  exact hnext Z1 Z2 H ls hR2 hL hl
set_option maxHeartbeats 4000000 in
theorem lc_due {p : Program} {l : Launch} {e : Env} {s : State} {m : MethodId} {below : List Frame} {meth : Method} {c : Code} {D : va_G} {B : Nat} {cy : Nat → ClassId} {ad av : Nat → Nat} {b L k : Nat} {xs : Nat → Int32} {RR : Nat → HS → HS → Prop} {SC SM : HS} {H : Heap} {ls : Array Slot} {x3 : Int32} (hq : ∀ (x1 x2 x3 : Int32), LIl RR (fn_X8_due x1 x2 x3) (fn_X9_due x1 x2 x3)) (hLn : L ≤ 3072) (Xc : hCX p s m #[Value.ref b] meth c RL cL_law 4 (some .boolean) D cy (AC B) ad av) (Xm : hCX p s m #[Value.ref b] meth c RL cL_law 4 (some .boolean) D cy (AM B) ad av) (hA : ∀ c, 65 ≤ c → AC B (B + c)) (h99 : cy 99 = ad 9) (hX : va_X b L xs s s.heap) (hbl : b < s.heap.size) (hbA : ¬ (fun q : Nat => s.heap.size ≤ q) b) (hk5 : k < 512) (hin : ∀ j, j < 6 → vp_in (x3 + nI j) L)
    (hnext : ∀ (SC SM : HS) (H : Heap) (ls : Array Slot), RR (k + 1) SC SM → LW D B cy SC SM s.heap H → lv_has ls 4 [(0, .ref b), (1, .ref (B + 0)), (2, .ref (B + 24 + 0)), (3, .int x3)] → W p l e room_1 s m #[Value.ref b] below meth c H [] (100 + 140 * (k + 1)) (40000 + 4300 * (k + 1)) (lw_Z below #[Value.ref b] s) (F0 m 769 ls [])) (hR : RR k SC SM) (hL : LW D B cy SC SM s.heap H) (hl : lv_has ls 4 [(0, .ref b), (1, .ref (B + 0)), (2, .ref (B + 24 + 0)), (3, .int x3)]) : W p l e room_1 s m #[Value.ref b] below meth c H [] (100 + 140 * k) (40000 + 4300 * k) (lw_Z below #[Value.ref b] s) (F0 m 435 ls []) := by
  obtain ⟨r, Z1, hf1, hst⟩ := hq (xs (x3 + nI 1).toNatClampNeg) (xs (x3 + nI 2).toNatClampNeg) (xs (x3 + nI 3).toNatClampNeg) k SC SM hk5 hR
  refine lv_aload_n Xc.1 Xc.2.1 dL_law_435 rfl (lv_at hl 1 rfl) ?_
  refine lv_aload_n Xc.1 Xc.2.1 dL_law_436 rfl (lv_at hl 0 rfl) ?_
  refine lv_iload_n Xc.1 Xc.2.1 dL_law_437 rfl (lv_at hl 3 rfl) ?_
  refine lv_iconst (v := nI 1) Xc.1 Xc.2.1 dL_law_438 (by decide) ?_
  refine lv_iadd Xc.1 Xc.2.1 dL_law_439 ?_
  refine va_sld Xc.1 Xc.2.1 hX hbl hbA hL.N (hin 1 (by decide)) dL_law_440 ?_
  refine lv_aload_n Xc.1 Xc.2.1 dL_law_441 rfl (lv_at hl 0 rfl) ?_
  refine lv_iload_n Xc.1 Xc.2.1 dL_law_442 rfl (lv_at hl 3 rfl) ?_
  refine lv_iconst (v := nI 2) Xc.1 Xc.2.1 dL_law_443 (by decide) ?_
  refine lv_iadd Xc.1 Xc.2.1 dL_law_444 ?_
  refine va_sld Xc.1 Xc.2.1 hX hbl hbA hL.N (hin 2 (by decide)) dL_law_445 ?_
  refine lv_aload_n Xc.1 Xc.2.1 dL_law_446 rfl (lv_at hl 0 rfl) ?_
  refine lv_iload_n Xc.1 Xc.2.1 dL_law_447 rfl (lv_at hl 3 rfl) ?_
  refine lv_iconst (v := nI 3) Xc.1 Xc.2.1 dL_law_448 (by decide) ?_
  refine lv_iadd Xc.1 Xc.2.1 dL_law_449 ?_
  refine va_sld Xc.1 Xc.2.1 hX hbl hbA hL.N (hin 3 (by decide)) dL_law_450 ?_
  refine lw_callC (As := [.int (xs (x3 + nI 1).toNatClampNeg), .int (xs (x3 + nI 2).toNatClampNeg), .int (xs (x3 + nI 3).toNatClampNeg)]) (rest := []) (st1 := [.long r]) Xc hL (c_X8_due l D B cy (AC B) ad av (xs (x3 + nI 1).toNatClampNeg) (xs (x3 + nI 2).toNatClampNeg) (xs (x3 + nI 3).toNatClampNeg) hL.C.2.2.2.2.1 hL.C.2.2.2.2.2 hf1) ⟨rfl, rfl, Nat.le_of_ble_eq_true rfl, Nat.le_of_ble_eq_true rfl⟩ tw_817 tw_818 tw_819 tw_820 hd_X8_due rfl hl.1 rfl (Nat.le_of_ble_eq_true rfl) dL_law_451 ⟨show 100 + 140 * k + 0 ≤ 600000 by omega, show 40000 + 4300 * k + 0 ≤ 7302250 by omega⟩ rfl (fun H hL => ?_)
  refine W.widen (k := 100 + 140 * (k + 1)) (n := 40000 + 4300 * (k + 1)) (by omega) (by omega) ?_
  obtain ⟨Z2, hf2, hR2⟩ := hst (gZ Z1 - 24) (by have := hL.C.2.2.2.2.2.1; omega)
  refine lv_aload_n Xc.1 Xc.2.1 dL_law_454 rfl (lv_at hl 2 rfl) ?_
  refine lv_aload_n Xc.1 Xc.2.1 dL_law_455 rfl (lv_at hl 0 rfl) ?_
  refine lv_iload_n Xc.1 Xc.2.1 dL_law_456 rfl (lv_at hl 3 rfl) ?_
  refine lv_iconst (v := nI 1) Xc.1 Xc.2.1 dL_law_457 (by decide) ?_
  refine lv_iadd Xc.1 Xc.2.1 dL_law_458 ?_
  refine va_sld Xc.1 Xc.2.1 hX hbl hbA hL.N (hin 1 (by decide)) dL_law_459 ?_
  refine lv_aload_n Xc.1 Xc.2.1 dL_law_460 rfl (lv_at hl 0 rfl) ?_
  refine lv_iload_n Xc.1 Xc.2.1 dL_law_461 rfl (lv_at hl 3 rfl) ?_
  refine lv_iconst (v := nI 2) Xc.1 Xc.2.1 dL_law_462 (by decide) ?_
  refine lv_iadd Xc.1 Xc.2.1 dL_law_463 ?_
  refine va_sld Xc.1 Xc.2.1 hX hbl hbA hL.N (hin 2 (by decide)) dL_law_464 ?_
  refine lv_aload_n Xc.1 Xc.2.1 dL_law_465 rfl (lv_at hl 0 rfl) ?_
  refine lv_iload_n Xc.1 Xc.2.1 dL_law_466 rfl (lv_at hl 3 rfl) ?_
  refine lv_iconst (v := nI 3) Xc.1 Xc.2.1 dL_law_467 (by decide) ?_
  refine lv_iadd Xc.1 Xc.2.1 dL_law_468 ?_
  refine va_sld Xc.1 Xc.2.1 hX hbl hbA hL.N (hin 3 (by decide)) dL_law_469 ?_
  refine lw_callM (As := [.int (xs (x3 + nI 1).toNatClampNeg), .int (xs (x3 + nI 2).toNatClampNeg), .int (xs (x3 + nI 3).toNatClampNeg)]) (rest := [.long r]) (st1 := [.long r, .long r]) Xm hL (c_X9_due l D (B + 24) cy (AM B) ad av (xs (x3 + nI 1).toNatClampNeg) (xs (x3 + nI 2).toNatClampNeg) (xs (x3 + nI 3).toNatClampNeg) hL.M.2.2.2.2.1 hL.M.2.2.2.2.2 hf2) ⟨rfl, rfl, Nat.le_of_ble_eq_true rfl, Nat.le_of_ble_eq_true rfl⟩ tw_833 tw_834 tw_835 tw_836 hd_X9_due rfl hl.1 rfl (Nat.le_of_ble_eq_true rfl) dL_law_470 ⟨show 100 + 140 * (k + 1) ≤ 600000 by omega, show 40000 + 4300 * (k + 1) ≤ 7302250 by omega⟩ rfl (fun H hL => ?_)
  refine W.lcmp Xc.1 Xc.2.1 dL_law_473 ?_
  rw [lg_cmp_self]
  refine lv_if_eq (tgt := 769) Xc.1 Xc.2.1 dL_law_474 (by decide) (fun _ => ?_) (fun h => absurd rfl h)
  exact hnext Z1 Z2 H ls hR2 hL hl
set_option maxHeartbeats 4000000 in
theorem lc_run {p : Program} {l : Launch} {e : Env} {s : State} {m : MethodId} {below : List Frame} {meth : Method} {c : Code} {D : va_G} {B : Nat} {cy : Nat → ClassId} {ad av : Nat → Nat} {b L k : Nat} {xs : Nat → Int32} {RR : Nat → HS → HS → Prop} {SC SM : HS} {H : Heap} {ls : Array Slot} {x3 : Int32} (hq : LIi RR (fn_X8_run ) (fn_X9_run )) (hLn : L ≤ 3072) (Xc : hCX p s m #[Value.ref b] meth c RL cL_law 4 (some .boolean) D cy (AC B) ad av) (Xm : hCX p s m #[Value.ref b] meth c RL cL_law 4 (some .boolean) D cy (AM B) ad av) (hA : ∀ c, 65 ≤ c → AC B (B + c)) (h99 : cy 99 = ad 9) (hX : va_X b L xs s s.heap) (hbl : b < s.heap.size) (hbA : ¬ (fun q : Nat => s.heap.size ≤ q) b) (hk5 : k < 512) (hin : ∀ j, j < 6 → vp_in (x3 + nI j) L)
    (hnext : ∀ (SC SM : HS) (H : Heap) (ls : Array Slot), RR (k + 1) SC SM → LW D B cy SC SM s.heap H → lv_has ls 4 [(0, .ref b), (1, .ref (B + 0)), (2, .ref (B + 24 + 0)), (3, .int x3)] → W p l e room_1 s m #[Value.ref b] below meth c H [] (100 + 140 * (k + 1)) (40000 + 4300 * (k + 1)) (lw_Z below #[Value.ref b] s) (F0 m 769 ls [])) (hR : RR k SC SM) (hL : LW D B cy SC SM s.heap H) (hl : lv_has ls 4 [(0, .ref b), (1, .ref (B + 0)), (2, .ref (B + 24 + 0)), (3, .int x3)]) : W p l e room_1 s m #[Value.ref b] below meth c H [] (100 + 140 * k) (40000 + 4300 * k) (lw_Z below #[Value.ref b] s) (F0 m 479 ls []) := by
  obtain ⟨r, Z1, hf1, hst⟩ := hq k SC SM hk5 hR
  refine lv_aload_n Xc.1 Xc.2.1 dL_law_479 rfl (lv_at hl 1 rfl) ?_
  refine lw_callC (As := []) (rest := []) (st1 := [.int r]) Xc hL (c_X8_run l D B cy (AC B) ad av  hL.C.2.2.2.2.1 hL.C.2.2.2.2.2 hf1) ⟨rfl, rfl, Nat.le_of_ble_eq_true rfl, Nat.le_of_ble_eq_true rfl⟩ tw_837 tw_838 tw_839 tw_840 hd_X8_run rfl hl.1 rfl (Nat.le_of_ble_eq_true rfl) dL_law_480 ⟨show 100 + 140 * k + 0 ≤ 600000 by omega, show 40000 + 4300 * k + 0 ≤ 7302250 by omega⟩ rfl (fun H hL => ?_)
  refine W.widen (k := 100 + 140 * (k + 1)) (n := 40000 + 4300 * (k + 1)) (by omega) (by omega) ?_
  obtain ⟨Z2, hf2, hR2⟩ := hst (gZ Z1 - 24) (by have := hL.C.2.2.2.2.2.1; omega)
  refine lv_aload_n Xc.1 Xc.2.1 dL_law_483 rfl (lv_at hl 2 rfl) ?_
  refine lw_callM (As := []) (rest := [.int r]) (st1 := [.int r, .int r]) Xm hL (c_X9_run l D (B + 24) cy (AM B) ad av  hL.M.2.2.2.2.1 hL.M.2.2.2.2.2 hf2) ⟨rfl, rfl, Nat.le_of_ble_eq_true rfl, Nat.le_of_ble_eq_true rfl⟩ tw_860 tw_861 tw_862 tw_863 hd_X9_run rfl hl.1 rfl (Nat.le_of_ble_eq_true rfl) dL_law_484 ⟨show 100 + 140 * (k + 1) ≤ 600000 by omega, show 40000 + 4300 * (k + 1) ≤ 7302250 by omega⟩ rfl (fun H hL => ?_)
  refine lv_icmp_eq (tgt := 769) Xc.1 Xc.2.1 dL_law_487 (by decide) (fun _ => ?_) (fun h => absurd rfl h)
  exact hnext Z1 Z2 H ls hR2 hL hl
set_option maxHeartbeats 4000000 in
theorem lc_payment {p : Program} {l : Launch} {e : Env} {s : State} {m : MethodId} {below : List Frame} {meth : Method} {c : Code} {D : va_G} {B : Nat} {cy : Nat → ClassId} {ad av : Nat → Nat} {b L k : Nat} {xs : Nat → Int32} {RR : Nat → HS → HS → Prop} {SC SM : HS} {H : Heap} {ls : Array Slot} {x3 : Int32} (hq : ∀ (x1 x2 : Int32), LIl RR (fn_X8_payment x1 x2) (fn_X9_payment x1 x2)) (hLn : L ≤ 3072) (Xc : hCX p s m #[Value.ref b] meth c RL cL_law 4 (some .boolean) D cy (AC B) ad av) (Xm : hCX p s m #[Value.ref b] meth c RL cL_law 4 (some .boolean) D cy (AM B) ad av) (hA : ∀ c, 65 ≤ c → AC B (B + c)) (h99 : cy 99 = ad 9) (hX : va_X b L xs s s.heap) (hbl : b < s.heap.size) (hbA : ¬ (fun q : Nat => s.heap.size ≤ q) b) (hk5 : k < 512) (hin : ∀ j, j < 6 → vp_in (x3 + nI j) L)
    (hnext : ∀ (SC SM : HS) (H : Heap) (ls : Array Slot), RR (k + 1) SC SM → LW D B cy SC SM s.heap H → lv_has ls 4 [(0, .ref b), (1, .ref (B + 0)), (2, .ref (B + 24 + 0)), (3, .int x3)] → W p l e room_1 s m #[Value.ref b] below meth c H [] (100 + 140 * (k + 1)) (40000 + 4300 * (k + 1)) (lw_Z below #[Value.ref b] s) (F0 m 769 ls [])) (hR : RR k SC SM) (hL : LW D B cy SC SM s.heap H) (hl : lv_has ls 4 [(0, .ref b), (1, .ref (B + 0)), (2, .ref (B + 24 + 0)), (3, .int x3)]) : W p l e room_1 s m #[Value.ref b] below meth c H [] (100 + 140 * k) (40000 + 4300 * k) (lw_Z below #[Value.ref b] s) (F0 m 492 ls []) := by
  obtain ⟨r, Z1, hf1, hst⟩ := hq (xs (x3 + nI 1).toNatClampNeg) (xs (x3 + nI 2).toNatClampNeg) k SC SM hk5 hR
  refine lv_aload_n Xc.1 Xc.2.1 dL_law_492 rfl (lv_at hl 1 rfl) ?_
  refine lv_aload_n Xc.1 Xc.2.1 dL_law_493 rfl (lv_at hl 0 rfl) ?_
  refine lv_iload_n Xc.1 Xc.2.1 dL_law_494 rfl (lv_at hl 3 rfl) ?_
  refine lv_iconst (v := nI 1) Xc.1 Xc.2.1 dL_law_495 (by decide) ?_
  refine lv_iadd Xc.1 Xc.2.1 dL_law_496 ?_
  refine va_sld Xc.1 Xc.2.1 hX hbl hbA hL.N (hin 1 (by decide)) dL_law_497 ?_
  refine lv_aload_n Xc.1 Xc.2.1 dL_law_498 rfl (lv_at hl 0 rfl) ?_
  refine lv_iload_n Xc.1 Xc.2.1 dL_law_499 rfl (lv_at hl 3 rfl) ?_
  refine lv_iconst (v := nI 2) Xc.1 Xc.2.1 dL_law_500 (by decide) ?_
  refine lv_iadd Xc.1 Xc.2.1 dL_law_501 ?_
  refine va_sld Xc.1 Xc.2.1 hX hbl hbA hL.N (hin 2 (by decide)) dL_law_502 ?_
  refine lw_callC (As := [.int (xs (x3 + nI 1).toNatClampNeg), .int (xs (x3 + nI 2).toNatClampNeg)]) (rest := []) (st1 := [.long r]) Xc hL (c_X8_payment l D B cy (AC B) ad av (xs (x3 + nI 1).toNatClampNeg) (xs (x3 + nI 2).toNatClampNeg) hL.C.2.2.2.2.1 hL.C.2.2.2.2.2 hf1) ⟨rfl, rfl, Nat.le_of_ble_eq_true rfl, Nat.le_of_ble_eq_true rfl⟩ tw_866 tw_867 tw_868 tw_869 hd_X8_payment rfl hl.1 rfl (Nat.le_of_ble_eq_true rfl) dL_law_503 ⟨show 100 + 140 * k + 0 ≤ 600000 by omega, show 40000 + 4300 * k + 0 ≤ 7302250 by omega⟩ rfl (fun H hL => ?_)
  refine W.widen (k := 100 + 140 * (k + 1)) (n := 40000 + 4300 * (k + 1)) (by omega) (by omega) ?_
  obtain ⟨Z2, hf2, hR2⟩ := hst (gZ Z1 - 24) (by have := hL.C.2.2.2.2.2.1; omega)
  refine lv_aload_n Xc.1 Xc.2.1 dL_law_506 rfl (lv_at hl 2 rfl) ?_
  refine lv_aload_n Xc.1 Xc.2.1 dL_law_507 rfl (lv_at hl 0 rfl) ?_
  refine lv_iload_n Xc.1 Xc.2.1 dL_law_508 rfl (lv_at hl 3 rfl) ?_
  refine lv_iconst (v := nI 1) Xc.1 Xc.2.1 dL_law_509 (by decide) ?_
  refine lv_iadd Xc.1 Xc.2.1 dL_law_510 ?_
  refine va_sld Xc.1 Xc.2.1 hX hbl hbA hL.N (hin 1 (by decide)) dL_law_511 ?_
  refine lv_aload_n Xc.1 Xc.2.1 dL_law_512 rfl (lv_at hl 0 rfl) ?_
  refine lv_iload_n Xc.1 Xc.2.1 dL_law_513 rfl (lv_at hl 3 rfl) ?_
  refine lv_iconst (v := nI 2) Xc.1 Xc.2.1 dL_law_514 (by decide) ?_
  refine lv_iadd Xc.1 Xc.2.1 dL_law_515 ?_
  refine va_sld Xc.1 Xc.2.1 hX hbl hbA hL.N (hin 2 (by decide)) dL_law_516 ?_
  refine lw_callM (As := [.int (xs (x3 + nI 1).toNatClampNeg), .int (xs (x3 + nI 2).toNatClampNeg)]) (rest := [.long r]) (st1 := [.long r, .long r]) Xm hL (c_X9_payment l D (B + 24) cy (AM B) ad av (xs (x3 + nI 1).toNatClampNeg) (xs (x3 + nI 2).toNatClampNeg) hL.M.2.2.2.2.1 hL.M.2.2.2.2.2 hf2) ⟨rfl, rfl, Nat.le_of_ble_eq_true rfl, Nat.le_of_ble_eq_true rfl⟩ tw_875 tw_876 tw_877 tw_878 hd_X9_payment rfl hl.1 rfl (Nat.le_of_ble_eq_true rfl) dL_law_517 ⟨show 100 + 140 * (k + 1) ≤ 600000 by omega, show 40000 + 4300 * (k + 1) ≤ 7302250 by omega⟩ rfl (fun H hL => ?_)
  refine W.lcmp Xc.1 Xc.2.1 dL_law_520 ?_
  rw [lg_cmp_self]
  refine lv_if_eq (tgt := 769) Xc.1 Xc.2.1 dL_law_521 (by decide) (fun _ => ?_) (fun h => absurd rfl h)
  exact hnext Z1 Z2 H ls hR2 hL hl
set_option maxHeartbeats 4000000 in
theorem lc_paid {p : Program} {l : Launch} {e : Env} {s : State} {m : MethodId} {below : List Frame} {meth : Method} {c : Code} {D : va_G} {B : Nat} {cy : Nat → ClassId} {ad av : Nat → Nat} {b L k : Nat} {xs : Nat → Int32} {RR : Nat → HS → HS → Prop} {SC SM : HS} {H : Heap} {ls : Array Slot} {x3 : Int32} (hq : ∀ (x1 x2 : Int32), LIl RR (fn_X8_paid x1 x2) (fn_X9_paid x1 x2)) (hLn : L ≤ 3072) (Xc : hCX p s m #[Value.ref b] meth c RL cL_law 4 (some .boolean) D cy (AC B) ad av) (Xm : hCX p s m #[Value.ref b] meth c RL cL_law 4 (some .boolean) D cy (AM B) ad av) (hA : ∀ c, 65 ≤ c → AC B (B + c)) (h99 : cy 99 = ad 9) (hX : va_X b L xs s s.heap) (hbl : b < s.heap.size) (hbA : ¬ (fun q : Nat => s.heap.size ≤ q) b) (hk5 : k < 512) (hin : ∀ j, j < 6 → vp_in (x3 + nI j) L)
    (hnext : ∀ (SC SM : HS) (H : Heap) (ls : Array Slot), RR (k + 1) SC SM → LW D B cy SC SM s.heap H → lv_has ls 4 [(0, .ref b), (1, .ref (B + 0)), (2, .ref (B + 24 + 0)), (3, .int x3)] → W p l e room_1 s m #[Value.ref b] below meth c H [] (100 + 140 * (k + 1)) (40000 + 4300 * (k + 1)) (lw_Z below #[Value.ref b] s) (F0 m 769 ls [])) (hR : RR k SC SM) (hL : LW D B cy SC SM s.heap H) (hl : lv_has ls 4 [(0, .ref b), (1, .ref (B + 0)), (2, .ref (B + 24 + 0)), (3, .int x3)]) : W p l e room_1 s m #[Value.ref b] below meth c H [] (100 + 140 * k) (40000 + 4300 * k) (lw_Z below #[Value.ref b] s) (F0 m 526 ls []) := by
  obtain ⟨r, Z1, hf1, hst⟩ := hq (xs (x3 + nI 1).toNatClampNeg) (xs (x3 + nI 2).toNatClampNeg) k SC SM hk5 hR
  refine lv_aload_n Xc.1 Xc.2.1 dL_law_526 rfl (lv_at hl 1 rfl) ?_
  refine lv_aload_n Xc.1 Xc.2.1 dL_law_527 rfl (lv_at hl 0 rfl) ?_
  refine lv_iload_n Xc.1 Xc.2.1 dL_law_528 rfl (lv_at hl 3 rfl) ?_
  refine lv_iconst (v := nI 1) Xc.1 Xc.2.1 dL_law_529 (by decide) ?_
  refine lv_iadd Xc.1 Xc.2.1 dL_law_530 ?_
  refine va_sld Xc.1 Xc.2.1 hX hbl hbA hL.N (hin 1 (by decide)) dL_law_531 ?_
  refine lv_aload_n Xc.1 Xc.2.1 dL_law_532 rfl (lv_at hl 0 rfl) ?_
  refine lv_iload_n Xc.1 Xc.2.1 dL_law_533 rfl (lv_at hl 3 rfl) ?_
  refine lv_iconst (v := nI 2) Xc.1 Xc.2.1 dL_law_534 (by decide) ?_
  refine lv_iadd Xc.1 Xc.2.1 dL_law_535 ?_
  refine va_sld Xc.1 Xc.2.1 hX hbl hbA hL.N (hin 2 (by decide)) dL_law_536 ?_
  refine lw_callC (As := [.int (xs (x3 + nI 1).toNatClampNeg), .int (xs (x3 + nI 2).toNatClampNeg)]) (rest := []) (st1 := [.long r]) Xc hL (c_X8_paid l D B cy (AC B) ad av (xs (x3 + nI 1).toNatClampNeg) (xs (x3 + nI 2).toNatClampNeg) hL.C.2.2.2.2.1 hL.C.2.2.2.2.2 hf1) ⟨rfl, rfl, Nat.le_of_ble_eq_true rfl, Nat.le_of_ble_eq_true rfl⟩ tw_879 tw_880 tw_881 tw_882 hd_X8_paid rfl hl.1 rfl (Nat.le_of_ble_eq_true rfl) dL_law_537 ⟨show 100 + 140 * k + 0 ≤ 600000 by omega, show 40000 + 4300 * k + 0 ≤ 7302250 by omega⟩ rfl (fun H hL => ?_)
  refine W.widen (k := 100 + 140 * (k + 1)) (n := 40000 + 4300 * (k + 1)) (by omega) (by omega) ?_
  obtain ⟨Z2, hf2, hR2⟩ := hst (gZ Z1 - 24) (by have := hL.C.2.2.2.2.2.1; omega)
  refine lv_aload_n Xc.1 Xc.2.1 dL_law_540 rfl (lv_at hl 2 rfl) ?_
  refine lv_aload_n Xc.1 Xc.2.1 dL_law_541 rfl (lv_at hl 0 rfl) ?_
  refine lv_iload_n Xc.1 Xc.2.1 dL_law_542 rfl (lv_at hl 3 rfl) ?_
  refine lv_iconst (v := nI 1) Xc.1 Xc.2.1 dL_law_543 (by decide) ?_
  refine lv_iadd Xc.1 Xc.2.1 dL_law_544 ?_
  refine va_sld Xc.1 Xc.2.1 hX hbl hbA hL.N (hin 1 (by decide)) dL_law_545 ?_
  refine lv_aload_n Xc.1 Xc.2.1 dL_law_546 rfl (lv_at hl 0 rfl) ?_
  refine lv_iload_n Xc.1 Xc.2.1 dL_law_547 rfl (lv_at hl 3 rfl) ?_
  refine lv_iconst (v := nI 2) Xc.1 Xc.2.1 dL_law_548 (by decide) ?_
  refine lv_iadd Xc.1 Xc.2.1 dL_law_549 ?_
  refine va_sld Xc.1 Xc.2.1 hX hbl hbA hL.N (hin 2 (by decide)) dL_law_550 ?_
  refine lw_callM (As := [.int (xs (x3 + nI 1).toNatClampNeg), .int (xs (x3 + nI 2).toNatClampNeg)]) (rest := [.long r]) (st1 := [.long r, .long r]) Xm hL (c_X9_paid l D (B + 24) cy (AM B) ad av (xs (x3 + nI 1).toNatClampNeg) (xs (x3 + nI 2).toNatClampNeg) hL.M.2.2.2.2.1 hL.M.2.2.2.2.2 hf2) ⟨rfl, rfl, Nat.le_of_ble_eq_true rfl, Nat.le_of_ble_eq_true rfl⟩ tw_883 tw_884 tw_885 tw_886 hd_X9_paid rfl hl.1 rfl (Nat.le_of_ble_eq_true rfl) dL_law_551 ⟨show 100 + 140 * (k + 1) ≤ 600000 by omega, show 40000 + 4300 * (k + 1) ≤ 7302250 by omega⟩ rfl (fun H hL => ?_)
  refine W.lcmp Xc.1 Xc.2.1 dL_law_554 ?_
  rw [lg_cmp_self]
  refine lv_if_eq (tgt := 769) Xc.1 Xc.2.1 dL_law_555 (by decide) (fun _ => ?_) (fun h => absurd rfl h)
  exact hnext Z1 Z2 H ls hR2 hL hl
set_option maxHeartbeats 4000000 in
theorem lc_cost {p : Program} {l : Launch} {e : Env} {s : State} {m : MethodId} {below : List Frame} {meth : Method} {c : Code} {D : va_G} {B : Nat} {cy : Nat → ClassId} {ad av : Nat → Nat} {b L k : Nat} {xs : Nat → Int32} {RR : Nat → HS → HS → Prop} {SC SM : HS} {H : Heap} {ls : Array Slot} {x3 : Int32} (hq : ∀ (x1 x2 x3 : Int32), LIl RR (fn_X8_cost x1 x2 x3) (fn_X9_cost x1 x2 x3)) (hLn : L ≤ 3072) (Xc : hCX p s m #[Value.ref b] meth c RL cL_law 4 (some .boolean) D cy (AC B) ad av) (Xm : hCX p s m #[Value.ref b] meth c RL cL_law 4 (some .boolean) D cy (AM B) ad av) (hA : ∀ c, 65 ≤ c → AC B (B + c)) (h99 : cy 99 = ad 9) (hX : va_X b L xs s s.heap) (hbl : b < s.heap.size) (hbA : ¬ (fun q : Nat => s.heap.size ≤ q) b) (hk5 : k < 512) (hin : ∀ j, j < 6 → vp_in (x3 + nI j) L)
    (hnext : ∀ (SC SM : HS) (H : Heap) (ls : Array Slot), RR (k + 1) SC SM → LW D B cy SC SM s.heap H → lv_has ls 4 [(0, .ref b), (1, .ref (B + 0)), (2, .ref (B + 24 + 0)), (3, .int x3)] → W p l e room_1 s m #[Value.ref b] below meth c H [] (100 + 140 * (k + 1)) (40000 + 4300 * (k + 1)) (lw_Z below #[Value.ref b] s) (F0 m 769 ls [])) (hR : RR k SC SM) (hL : LW D B cy SC SM s.heap H) (hl : lv_has ls 4 [(0, .ref b), (1, .ref (B + 0)), (2, .ref (B + 24 + 0)), (3, .int x3)]) : W p l e room_1 s m #[Value.ref b] below meth c H [] (100 + 140 * k) (40000 + 4300 * k) (lw_Z below #[Value.ref b] s) (F0 m 560 ls []) := by
  obtain ⟨r, Z1, hf1, hst⟩ := hq (xs (x3 + nI 1).toNatClampNeg) (xs (x3 + nI 2).toNatClampNeg) (xs (x3 + nI 3).toNatClampNeg) k SC SM hk5 hR
  refine lv_aload_n Xc.1 Xc.2.1 dL_law_560 rfl (lv_at hl 1 rfl) ?_
  refine lv_aload_n Xc.1 Xc.2.1 dL_law_561 rfl (lv_at hl 0 rfl) ?_
  refine lv_iload_n Xc.1 Xc.2.1 dL_law_562 rfl (lv_at hl 3 rfl) ?_
  refine lv_iconst (v := nI 1) Xc.1 Xc.2.1 dL_law_563 (by decide) ?_
  refine lv_iadd Xc.1 Xc.2.1 dL_law_564 ?_
  refine va_sld Xc.1 Xc.2.1 hX hbl hbA hL.N (hin 1 (by decide)) dL_law_565 ?_
  refine lv_aload_n Xc.1 Xc.2.1 dL_law_566 rfl (lv_at hl 0 rfl) ?_
  refine lv_iload_n Xc.1 Xc.2.1 dL_law_567 rfl (lv_at hl 3 rfl) ?_
  refine lv_iconst (v := nI 2) Xc.1 Xc.2.1 dL_law_568 (by decide) ?_
  refine lv_iadd Xc.1 Xc.2.1 dL_law_569 ?_
  refine va_sld Xc.1 Xc.2.1 hX hbl hbA hL.N (hin 2 (by decide)) dL_law_570 ?_
  refine lv_aload_n Xc.1 Xc.2.1 dL_law_571 rfl (lv_at hl 0 rfl) ?_
  refine lv_iload_n Xc.1 Xc.2.1 dL_law_572 rfl (lv_at hl 3 rfl) ?_
  refine lv_iconst (v := nI 3) Xc.1 Xc.2.1 dL_law_573 (by decide) ?_
  refine lv_iadd Xc.1 Xc.2.1 dL_law_574 ?_
  refine va_sld Xc.1 Xc.2.1 hX hbl hbA hL.N (hin 3 (by decide)) dL_law_575 ?_
  refine lw_callC (As := [.int (xs (x3 + nI 1).toNatClampNeg), .int (xs (x3 + nI 2).toNatClampNeg), .int (xs (x3 + nI 3).toNatClampNeg)]) (rest := []) (st1 := [.long r]) Xc hL (c_X8_cost l D B cy (AC B) ad av (xs (x3 + nI 1).toNatClampNeg) (xs (x3 + nI 2).toNatClampNeg) (xs (x3 + nI 3).toNatClampNeg) hL.C.2.2.2.2.1 hL.C.2.2.2.2.2 hf1) ⟨rfl, rfl, Nat.le_of_ble_eq_true rfl, Nat.le_of_ble_eq_true rfl⟩ tw_887 tw_888 tw_889 tw_890 hd_X8_cost rfl hl.1 rfl (Nat.le_of_ble_eq_true rfl) dL_law_576 ⟨show 100 + 140 * k + 0 ≤ 600000 by omega, show 40000 + 4300 * k + 0 ≤ 7302250 by omega⟩ rfl (fun H hL => ?_)
  refine W.widen (k := 100 + 140 * (k + 1)) (n := 40000 + 4300 * (k + 1)) (by omega) (by omega) ?_
  obtain ⟨Z2, hf2, hR2⟩ := hst (gZ Z1 - 24) (by have := hL.C.2.2.2.2.2.1; omega)
  refine lv_aload_n Xc.1 Xc.2.1 dL_law_579 rfl (lv_at hl 2 rfl) ?_
  refine lv_aload_n Xc.1 Xc.2.1 dL_law_580 rfl (lv_at hl 0 rfl) ?_
  refine lv_iload_n Xc.1 Xc.2.1 dL_law_581 rfl (lv_at hl 3 rfl) ?_
  refine lv_iconst (v := nI 1) Xc.1 Xc.2.1 dL_law_582 (by decide) ?_
  refine lv_iadd Xc.1 Xc.2.1 dL_law_583 ?_
  refine va_sld Xc.1 Xc.2.1 hX hbl hbA hL.N (hin 1 (by decide)) dL_law_584 ?_
  refine lv_aload_n Xc.1 Xc.2.1 dL_law_585 rfl (lv_at hl 0 rfl) ?_
  refine lv_iload_n Xc.1 Xc.2.1 dL_law_586 rfl (lv_at hl 3 rfl) ?_
  refine lv_iconst (v := nI 2) Xc.1 Xc.2.1 dL_law_587 (by decide) ?_
  refine lv_iadd Xc.1 Xc.2.1 dL_law_588 ?_
  refine va_sld Xc.1 Xc.2.1 hX hbl hbA hL.N (hin 2 (by decide)) dL_law_589 ?_
  refine lv_aload_n Xc.1 Xc.2.1 dL_law_590 rfl (lv_at hl 0 rfl) ?_
  refine lv_iload_n Xc.1 Xc.2.1 dL_law_591 rfl (lv_at hl 3 rfl) ?_
  refine lv_iconst (v := nI 3) Xc.1 Xc.2.1 dL_law_592 (by decide) ?_
  refine lv_iadd Xc.1 Xc.2.1 dL_law_593 ?_
  refine va_sld Xc.1 Xc.2.1 hX hbl hbA hL.N (hin 3 (by decide)) dL_law_594 ?_
  refine lw_callM (As := [.int (xs (x3 + nI 1).toNatClampNeg), .int (xs (x3 + nI 2).toNatClampNeg), .int (xs (x3 + nI 3).toNatClampNeg)]) (rest := [.long r]) (st1 := [.long r, .long r]) Xm hL (c_X9_cost l D (B + 24) cy (AM B) ad av (xs (x3 + nI 1).toNatClampNeg) (xs (x3 + nI 2).toNatClampNeg) (xs (x3 + nI 3).toNatClampNeg) hL.M.2.2.2.2.1 hL.M.2.2.2.2.2 hf2) ⟨rfl, rfl, Nat.le_of_ble_eq_true rfl, Nat.le_of_ble_eq_true rfl⟩ tw_891 tw_892 tw_893 tw_894 hd_X9_cost rfl hl.1 rfl (Nat.le_of_ble_eq_true rfl) dL_law_595 ⟨show 100 + 140 * (k + 1) ≤ 600000 by omega, show 40000 + 4300 * (k + 1) ≤ 7302250 by omega⟩ rfl (fun H hL => ?_)
  refine W.lcmp Xc.1 Xc.2.1 dL_law_598 ?_
  rw [lg_cmp_self]
  refine lv_if_eq (tgt := 769) Xc.1 Xc.2.1 dL_law_599 (by decide) (fun _ => ?_) (fun h => absurd rfl h)
  exact hnext Z1 Z2 H ls hR2 hL hl
set_option maxHeartbeats 4000000 in
theorem lc_like {p : Program} {l : Launch} {e : Env} {s : State} {m : MethodId} {below : List Frame} {meth : Method} {c : Code} {D : va_G} {B : Nat} {cy : Nat → ClassId} {ad av : Nat → Nat} {b L k : Nat} {xs : Nat → Int32} {RR : Nat → HS → HS → Prop} {SC SM : HS} {H : Heap} {ls : Array Slot} {x3 : Int32} (hq : ∀ (x1 x2 x3 : Int32), LIi RR (fn_X8_like x1 x2 x3) (fn_X9_like x1 x2 x3)) (hLn : L ≤ 3072) (Xc : hCX p s m #[Value.ref b] meth c RL cL_law 4 (some .boolean) D cy (AC B) ad av) (Xm : hCX p s m #[Value.ref b] meth c RL cL_law 4 (some .boolean) D cy (AM B) ad av) (hA : ∀ c, 65 ≤ c → AC B (B + c)) (h99 : cy 99 = ad 9) (hX : va_X b L xs s s.heap) (hbl : b < s.heap.size) (hbA : ¬ (fun q : Nat => s.heap.size ≤ q) b) (hk5 : k < 512) (hin : ∀ j, j < 6 → vp_in (x3 + nI j) L)
    (hnext : ∀ (SC SM : HS) (H : Heap) (ls : Array Slot), RR (k + 1) SC SM → LW D B cy SC SM s.heap H → lv_has ls 4 [(0, .ref b), (1, .ref (B + 0)), (2, .ref (B + 24 + 0)), (3, .int x3)] → W p l e room_1 s m #[Value.ref b] below meth c H [] (100 + 140 * (k + 1)) (40000 + 4300 * (k + 1)) (lw_Z below #[Value.ref b] s) (F0 m 769 ls [])) (hR : RR k SC SM) (hL : LW D B cy SC SM s.heap H) (hl : lv_has ls 4 [(0, .ref b), (1, .ref (B + 0)), (2, .ref (B + 24 + 0)), (3, .int x3)]) : W p l e room_1 s m #[Value.ref b] below meth c H [] (100 + 140 * k) (40000 + 4300 * k) (lw_Z below #[Value.ref b] s) (F0 m 604 ls []) := by
  obtain ⟨r, Z1, hf1, hst⟩ := hq (xs (x3 + nI 1).toNatClampNeg) (xs (x3 + nI 2).toNatClampNeg) (xs (x3 + nI 3).toNatClampNeg) k SC SM hk5 hR
  refine lv_aload_n Xc.1 Xc.2.1 dL_law_604 rfl (lv_at hl 1 rfl) ?_
  refine lv_aload_n Xc.1 Xc.2.1 dL_law_605 rfl (lv_at hl 0 rfl) ?_
  refine lv_iload_n Xc.1 Xc.2.1 dL_law_606 rfl (lv_at hl 3 rfl) ?_
  refine lv_iconst (v := nI 1) Xc.1 Xc.2.1 dL_law_607 (by decide) ?_
  refine lv_iadd Xc.1 Xc.2.1 dL_law_608 ?_
  refine va_sld Xc.1 Xc.2.1 hX hbl hbA hL.N (hin 1 (by decide)) dL_law_609 ?_
  refine lv_aload_n Xc.1 Xc.2.1 dL_law_610 rfl (lv_at hl 0 rfl) ?_
  refine lv_iload_n Xc.1 Xc.2.1 dL_law_611 rfl (lv_at hl 3 rfl) ?_
  refine lv_iconst (v := nI 2) Xc.1 Xc.2.1 dL_law_612 (by decide) ?_
  refine lv_iadd Xc.1 Xc.2.1 dL_law_613 ?_
  refine va_sld Xc.1 Xc.2.1 hX hbl hbA hL.N (hin 2 (by decide)) dL_law_614 ?_
  refine lv_aload_n Xc.1 Xc.2.1 dL_law_615 rfl (lv_at hl 0 rfl) ?_
  refine lv_iload_n Xc.1 Xc.2.1 dL_law_616 rfl (lv_at hl 3 rfl) ?_
  refine lv_iconst (v := nI 3) Xc.1 Xc.2.1 dL_law_617 (by decide) ?_
  refine lv_iadd Xc.1 Xc.2.1 dL_law_618 ?_
  refine va_sld Xc.1 Xc.2.1 hX hbl hbA hL.N (hin 3 (by decide)) dL_law_619 ?_
  refine lw_callC (As := [.int (xs (x3 + nI 1).toNatClampNeg), .int (xs (x3 + nI 2).toNatClampNeg), .int (xs (x3 + nI 3).toNatClampNeg)]) (rest := []) (st1 := [.int r]) Xc hL (c_X8_like l D B cy (AC B) ad av (xs (x3 + nI 1).toNatClampNeg) (xs (x3 + nI 2).toNatClampNeg) (xs (x3 + nI 3).toNatClampNeg) hL.C.2.2.2.2.1 hL.C.2.2.2.2.2 hf1) ⟨rfl, rfl, Nat.le_of_ble_eq_true rfl, Nat.le_of_ble_eq_true rfl⟩ tw_895 tw_896 tw_897 tw_898 hd_X8_like rfl hl.1 rfl (Nat.le_of_ble_eq_true rfl) dL_law_620 ⟨show 100 + 140 * k + 0 ≤ 600000 by omega, show 40000 + 4300 * k + 0 ≤ 7302250 by omega⟩ rfl (fun H hL => ?_)
  refine W.widen (k := 100 + 140 * (k + 1)) (n := 40000 + 4300 * (k + 1)) (by omega) (by omega) ?_
  obtain ⟨Z2, hf2, hR2⟩ := hst (gZ Z1 - 24) (by have := hL.C.2.2.2.2.2.1; omega)
  refine lv_aload_n Xc.1 Xc.2.1 dL_law_623 rfl (lv_at hl 2 rfl) ?_
  refine lv_aload_n Xc.1 Xc.2.1 dL_law_624 rfl (lv_at hl 0 rfl) ?_
  refine lv_iload_n Xc.1 Xc.2.1 dL_law_625 rfl (lv_at hl 3 rfl) ?_
  refine lv_iconst (v := nI 1) Xc.1 Xc.2.1 dL_law_626 (by decide) ?_
  refine lv_iadd Xc.1 Xc.2.1 dL_law_627 ?_
  refine va_sld Xc.1 Xc.2.1 hX hbl hbA hL.N (hin 1 (by decide)) dL_law_628 ?_
  refine lv_aload_n Xc.1 Xc.2.1 dL_law_629 rfl (lv_at hl 0 rfl) ?_
  refine lv_iload_n Xc.1 Xc.2.1 dL_law_630 rfl (lv_at hl 3 rfl) ?_
  refine lv_iconst (v := nI 2) Xc.1 Xc.2.1 dL_law_631 (by decide) ?_
  refine lv_iadd Xc.1 Xc.2.1 dL_law_632 ?_
  refine va_sld Xc.1 Xc.2.1 hX hbl hbA hL.N (hin 2 (by decide)) dL_law_633 ?_
  refine lv_aload_n Xc.1 Xc.2.1 dL_law_634 rfl (lv_at hl 0 rfl) ?_
  refine lv_iload_n Xc.1 Xc.2.1 dL_law_635 rfl (lv_at hl 3 rfl) ?_
  refine lv_iconst (v := nI 3) Xc.1 Xc.2.1 dL_law_636 (by decide) ?_
  refine lv_iadd Xc.1 Xc.2.1 dL_law_637 ?_
  refine va_sld Xc.1 Xc.2.1 hX hbl hbA hL.N (hin 3 (by decide)) dL_law_638 ?_
  refine lw_callM (As := [.int (xs (x3 + nI 1).toNatClampNeg), .int (xs (x3 + nI 2).toNatClampNeg), .int (xs (x3 + nI 3).toNatClampNeg)]) (rest := [.int r]) (st1 := [.int r, .int r]) Xm hL (c_X9_like l D (B + 24) cy (AM B) ad av (xs (x3 + nI 1).toNatClampNeg) (xs (x3 + nI 2).toNatClampNeg) (xs (x3 + nI 3).toNatClampNeg) hL.M.2.2.2.2.1 hL.M.2.2.2.2.2 hf2) ⟨rfl, rfl, Nat.le_of_ble_eq_true rfl, Nat.le_of_ble_eq_true rfl⟩ tw_918 tw_919 tw_920 tw_921 hd_X9_like rfl hl.1 rfl (Nat.le_of_ble_eq_true rfl) dL_law_639 ⟨show 100 + 140 * (k + 1) ≤ 600000 by omega, show 40000 + 4300 * (k + 1) ≤ 7302250 by omega⟩ rfl (fun H hL => ?_)
  refine lv_icmp_eq (tgt := 769) Xc.1 Xc.2.1 dL_law_642 (by decide) (fun _ => ?_) (fun h => absurd rfl h)
  exact hnext Z1 Z2 H ls hR2 hL hl
set_option maxHeartbeats 4000000 in
theorem lc_pair {p : Program} {l : Launch} {e : Env} {s : State} {m : MethodId} {below : List Frame} {meth : Method} {c : Code} {D : va_G} {B : Nat} {cy : Nat → ClassId} {ad av : Nat → Nat} {b L k : Nat} {xs : Nat → Int32} {RR : Nat → HS → HS → Prop} {SC SM : HS} {H : Heap} {ls : Array Slot} {x3 : Int32} (hq : ∀ (x1 x2 : Int32), LIi RR (fn_X8_pair x1 x2) (fn_X9_pair x1 x2)) (hLn : L ≤ 3072) (Xc : hCX p s m #[Value.ref b] meth c RL cL_law 4 (some .boolean) D cy (AC B) ad av) (Xm : hCX p s m #[Value.ref b] meth c RL cL_law 4 (some .boolean) D cy (AM B) ad av) (hA : ∀ c, 65 ≤ c → AC B (B + c)) (h99 : cy 99 = ad 9) (hX : va_X b L xs s s.heap) (hbl : b < s.heap.size) (hbA : ¬ (fun q : Nat => s.heap.size ≤ q) b) (hk5 : k < 512) (hin : ∀ j, j < 6 → vp_in (x3 + nI j) L)
    (hnext : ∀ (SC SM : HS) (H : Heap) (ls : Array Slot), RR (k + 1) SC SM → LW D B cy SC SM s.heap H → lv_has ls 4 [(0, .ref b), (1, .ref (B + 0)), (2, .ref (B + 24 + 0)), (3, .int x3)] → W p l e room_1 s m #[Value.ref b] below meth c H [] (100 + 140 * (k + 1)) (40000 + 4300 * (k + 1)) (lw_Z below #[Value.ref b] s) (F0 m 769 ls [])) (hR : RR k SC SM) (hL : LW D B cy SC SM s.heap H) (hl : lv_has ls 4 [(0, .ref b), (1, .ref (B + 0)), (2, .ref (B + 24 + 0)), (3, .int x3)]) : W p l e room_1 s m #[Value.ref b] below meth c H [] (100 + 140 * k) (40000 + 4300 * k) (lw_Z below #[Value.ref b] s) (F0 m 647 ls []) := by
  obtain ⟨r, Z1, hf1, hst⟩ := hq (xs (x3 + nI 1).toNatClampNeg) (xs (x3 + nI 2).toNatClampNeg) k SC SM hk5 hR
  refine lv_aload_n Xc.1 Xc.2.1 dL_law_647 rfl (lv_at hl 1 rfl) ?_
  refine lv_aload_n Xc.1 Xc.2.1 dL_law_648 rfl (lv_at hl 0 rfl) ?_
  refine lv_iload_n Xc.1 Xc.2.1 dL_law_649 rfl (lv_at hl 3 rfl) ?_
  refine lv_iconst (v := nI 1) Xc.1 Xc.2.1 dL_law_650 (by decide) ?_
  refine lv_iadd Xc.1 Xc.2.1 dL_law_651 ?_
  refine va_sld Xc.1 Xc.2.1 hX hbl hbA hL.N (hin 1 (by decide)) dL_law_652 ?_
  refine lv_aload_n Xc.1 Xc.2.1 dL_law_653 rfl (lv_at hl 0 rfl) ?_
  refine lv_iload_n Xc.1 Xc.2.1 dL_law_654 rfl (lv_at hl 3 rfl) ?_
  refine lv_iconst (v := nI 2) Xc.1 Xc.2.1 dL_law_655 (by decide) ?_
  refine lv_iadd Xc.1 Xc.2.1 dL_law_656 ?_
  refine va_sld Xc.1 Xc.2.1 hX hbl hbA hL.N (hin 2 (by decide)) dL_law_657 ?_
  refine lw_callC (As := [.int (xs (x3 + nI 1).toNatClampNeg), .int (xs (x3 + nI 2).toNatClampNeg)]) (rest := []) (st1 := [.int r]) Xc hL (c_X8_pair l D B cy (AC B) ad av (xs (x3 + nI 1).toNatClampNeg) (xs (x3 + nI 2).toNatClampNeg) hL.C.2.2.2.2.1 hL.C.2.2.2.2.2 hf1) ⟨rfl, rfl, Nat.le_of_ble_eq_true rfl, Nat.le_of_ble_eq_true rfl⟩ tw_928 tw_929 tw_930 tw_931 hd_X8_pair rfl hl.1 rfl (Nat.le_of_ble_eq_true rfl) dL_law_658 ⟨show 100 + 140 * k + 0 ≤ 600000 by omega, show 40000 + 4300 * k + 0 ≤ 7302250 by omega⟩ rfl (fun H hL => ?_)
  refine W.widen (k := 100 + 140 * (k + 1)) (n := 40000 + 4300 * (k + 1)) (by omega) (by omega) ?_
  obtain ⟨Z2, hf2, hR2⟩ := hst (gZ Z1 - 24) (by have := hL.C.2.2.2.2.2.1; omega)
  refine lv_aload_n Xc.1 Xc.2.1 dL_law_661 rfl (lv_at hl 2 rfl) ?_
  refine lv_aload_n Xc.1 Xc.2.1 dL_law_662 rfl (lv_at hl 0 rfl) ?_
  refine lv_iload_n Xc.1 Xc.2.1 dL_law_663 rfl (lv_at hl 3 rfl) ?_
  refine lv_iconst (v := nI 1) Xc.1 Xc.2.1 dL_law_664 (by decide) ?_
  refine lv_iadd Xc.1 Xc.2.1 dL_law_665 ?_
  refine va_sld Xc.1 Xc.2.1 hX hbl hbA hL.N (hin 1 (by decide)) dL_law_666 ?_
  refine lv_aload_n Xc.1 Xc.2.1 dL_law_667 rfl (lv_at hl 0 rfl) ?_
  refine lv_iload_n Xc.1 Xc.2.1 dL_law_668 rfl (lv_at hl 3 rfl) ?_
  refine lv_iconst (v := nI 2) Xc.1 Xc.2.1 dL_law_669 (by decide) ?_
  refine lv_iadd Xc.1 Xc.2.1 dL_law_670 ?_
  refine va_sld Xc.1 Xc.2.1 hX hbl hbA hL.N (hin 2 (by decide)) dL_law_671 ?_
  refine lw_callM (As := [.int (xs (x3 + nI 1).toNatClampNeg), .int (xs (x3 + nI 2).toNatClampNeg)]) (rest := [.int r]) (st1 := [.int r, .int r]) Xm hL (c_X9_pair l D (B + 24) cy (AM B) ad av (xs (x3 + nI 1).toNatClampNeg) (xs (x3 + nI 2).toNatClampNeg) hL.M.2.2.2.2.1 hL.M.2.2.2.2.2 hf2) ⟨rfl, rfl, Nat.le_of_ble_eq_true rfl, Nat.le_of_ble_eq_true rfl⟩ tw_932 tw_933 tw_934 tw_935 hd_X9_pair rfl hl.1 rfl (Nat.le_of_ble_eq_true rfl) dL_law_672 ⟨show 100 + 140 * (k + 1) ≤ 600000 by omega, show 40000 + 4300 * (k + 1) ≤ 7302250 by omega⟩ rfl (fun H hL => ?_)
  refine lv_icmp_eq (tgt := 769) Xc.1 Xc.2.1 dL_law_675 (by decide) (fun _ => ?_) (fun h => absurd rfl h)
  exact hnext Z1 Z2 H ls hR2 hL hl
set_option maxHeartbeats 4000000 in
theorem lc_meet {p : Program} {l : Launch} {e : Env} {s : State} {m : MethodId} {below : List Frame} {meth : Method} {c : Code} {D : va_G} {B : Nat} {cy : Nat → ClassId} {ad av : Nat → Nat} {b L k : Nat} {xs : Nat → Int32} {RR : Nat → HS → HS → Prop} {SC SM : HS} {H : Heap} {ls : Array Slot} {x3 : Int32} (hq : ∀ (x1 x2 : Int32), LIi RR (fn_X8_meet x1 x2) (fn_X9_meet x1 x2)) (hLn : L ≤ 3072) (Xc : hCX p s m #[Value.ref b] meth c RL cL_law 4 (some .boolean) D cy (AC B) ad av) (Xm : hCX p s m #[Value.ref b] meth c RL cL_law 4 (some .boolean) D cy (AM B) ad av) (hA : ∀ c, 65 ≤ c → AC B (B + c)) (h99 : cy 99 = ad 9) (hX : va_X b L xs s s.heap) (hbl : b < s.heap.size) (hbA : ¬ (fun q : Nat => s.heap.size ≤ q) b) (hk5 : k < 512) (hin : ∀ j, j < 6 → vp_in (x3 + nI j) L)
    (hnext : ∀ (SC SM : HS) (H : Heap) (ls : Array Slot), RR (k + 1) SC SM → LW D B cy SC SM s.heap H → lv_has ls 4 [(0, .ref b), (1, .ref (B + 0)), (2, .ref (B + 24 + 0)), (3, .int x3)] → W p l e room_1 s m #[Value.ref b] below meth c H [] (100 + 140 * (k + 1)) (40000 + 4300 * (k + 1)) (lw_Z below #[Value.ref b] s) (F0 m 769 ls [])) (hR : RR k SC SM) (hL : LW D B cy SC SM s.heap H) (hl : lv_has ls 4 [(0, .ref b), (1, .ref (B + 0)), (2, .ref (B + 24 + 0)), (3, .int x3)]) : W p l e room_1 s m #[Value.ref b] below meth c H [] (100 + 140 * k) (40000 + 4300 * k) (lw_Z below #[Value.ref b] s) (F0 m 680 ls []) := by
  obtain ⟨r, Z1, hf1, hst⟩ := hq (xs (x3 + nI 1).toNatClampNeg) (xs (x3 + nI 2).toNatClampNeg) k SC SM hk5 hR
  refine lv_aload_n Xc.1 Xc.2.1 dL_law_680 rfl (lv_at hl 1 rfl) ?_
  refine lv_aload_n Xc.1 Xc.2.1 dL_law_681 rfl (lv_at hl 0 rfl) ?_
  refine lv_iload_n Xc.1 Xc.2.1 dL_law_682 rfl (lv_at hl 3 rfl) ?_
  refine lv_iconst (v := nI 1) Xc.1 Xc.2.1 dL_law_683 (by decide) ?_
  refine lv_iadd Xc.1 Xc.2.1 dL_law_684 ?_
  refine va_sld Xc.1 Xc.2.1 hX hbl hbA hL.N (hin 1 (by decide)) dL_law_685 ?_
  refine lv_aload_n Xc.1 Xc.2.1 dL_law_686 rfl (lv_at hl 0 rfl) ?_
  refine lv_iload_n Xc.1 Xc.2.1 dL_law_687 rfl (lv_at hl 3 rfl) ?_
  refine lv_iconst (v := nI 2) Xc.1 Xc.2.1 dL_law_688 (by decide) ?_
  refine lv_iadd Xc.1 Xc.2.1 dL_law_689 ?_
  refine va_sld Xc.1 Xc.2.1 hX hbl hbA hL.N (hin 2 (by decide)) dL_law_690 ?_
  refine lw_callC (As := [.int (xs (x3 + nI 1).toNatClampNeg), .int (xs (x3 + nI 2).toNatClampNeg)]) (rest := []) (st1 := [.int r]) Xc hL (c_X8_meet l D B cy (AC B) ad av (xs (x3 + nI 1).toNatClampNeg) (xs (x3 + nI 2).toNatClampNeg) hL.C.2.2.2.2.1 hL.C.2.2.2.2.2 hf1) ⟨rfl, rfl, Nat.le_of_ble_eq_true rfl, Nat.le_of_ble_eq_true rfl⟩ tw_936 tw_937 tw_938 tw_939 hd_X8_meet rfl hl.1 rfl (Nat.le_of_ble_eq_true rfl) dL_law_691 ⟨show 100 + 140 * k + 0 ≤ 600000 by omega, show 40000 + 4300 * k + 0 ≤ 7302250 by omega⟩ rfl (fun H hL => ?_)
  refine W.widen (k := 100 + 140 * (k + 1)) (n := 40000 + 4300 * (k + 1)) (by omega) (by omega) ?_
  obtain ⟨Z2, hf2, hR2⟩ := hst (gZ Z1 - 24) (by have := hL.C.2.2.2.2.2.1; omega)
  refine lv_aload_n Xc.1 Xc.2.1 dL_law_694 rfl (lv_at hl 2 rfl) ?_
  refine lv_aload_n Xc.1 Xc.2.1 dL_law_695 rfl (lv_at hl 0 rfl) ?_
  refine lv_iload_n Xc.1 Xc.2.1 dL_law_696 rfl (lv_at hl 3 rfl) ?_
  refine lv_iconst (v := nI 1) Xc.1 Xc.2.1 dL_law_697 (by decide) ?_
  refine lv_iadd Xc.1 Xc.2.1 dL_law_698 ?_
  refine va_sld Xc.1 Xc.2.1 hX hbl hbA hL.N (hin 1 (by decide)) dL_law_699 ?_
  refine lv_aload_n Xc.1 Xc.2.1 dL_law_700 rfl (lv_at hl 0 rfl) ?_
  refine lv_iload_n Xc.1 Xc.2.1 dL_law_701 rfl (lv_at hl 3 rfl) ?_
  refine lv_iconst (v := nI 2) Xc.1 Xc.2.1 dL_law_702 (by decide) ?_
  refine lv_iadd Xc.1 Xc.2.1 dL_law_703 ?_
  refine va_sld Xc.1 Xc.2.1 hX hbl hbA hL.N (hin 2 (by decide)) dL_law_704 ?_
  refine lw_callM (As := [.int (xs (x3 + nI 1).toNatClampNeg), .int (xs (x3 + nI 2).toNatClampNeg)]) (rest := [.int r]) (st1 := [.int r, .int r]) Xm hL (c_X9_meet l D (B + 24) cy (AM B) ad av (xs (x3 + nI 1).toNatClampNeg) (xs (x3 + nI 2).toNatClampNeg) hL.M.2.2.2.2.1 hL.M.2.2.2.2.2 hf2) ⟨rfl, rfl, Nat.le_of_ble_eq_true rfl, Nat.le_of_ble_eq_true rfl⟩ tw_957 tw_958 tw_959 tw_960 hd_X9_meet rfl hl.1 rfl (Nat.le_of_ble_eq_true rfl) dL_law_705 ⟨show 100 + 140 * (k + 1) ≤ 600000 by omega, show 40000 + 4300 * (k + 1) ≤ 7302250 by omega⟩ rfl (fun H hL => ?_)
  refine lv_icmp_eq (tgt := 769) Xc.1 Xc.2.1 dL_law_708 (by decide) (fun _ => ?_) (fun h => absurd rfl h)
  exact hnext Z1 Z2 H ls hR2 hL hl
set_option maxHeartbeats 4000000 in
theorem lc_met {p : Program} {l : Launch} {e : Env} {s : State} {m : MethodId} {below : List Frame} {meth : Method} {c : Code} {D : va_G} {B : Nat} {cy : Nat → ClassId} {ad av : Nat → Nat} {b L k : Nat} {xs : Nat → Int32} {RR : Nat → HS → HS → Prop} {SC SM : HS} {H : Heap} {ls : Array Slot} {x3 : Int32} (hq : ∀ (x1 x2 : Int32), LIi RR (fn_X8_met x1 x2) (fn_X9_met x1 x2)) (hLn : L ≤ 3072) (Xc : hCX p s m #[Value.ref b] meth c RL cL_law 4 (some .boolean) D cy (AC B) ad av) (Xm : hCX p s m #[Value.ref b] meth c RL cL_law 4 (some .boolean) D cy (AM B) ad av) (hA : ∀ c, 65 ≤ c → AC B (B + c)) (h99 : cy 99 = ad 9) (hX : va_X b L xs s s.heap) (hbl : b < s.heap.size) (hbA : ¬ (fun q : Nat => s.heap.size ≤ q) b) (hk5 : k < 512) (hin : ∀ j, j < 6 → vp_in (x3 + nI j) L)
    (hnext : ∀ (SC SM : HS) (H : Heap) (ls : Array Slot), RR (k + 1) SC SM → LW D B cy SC SM s.heap H → lv_has ls 4 [(0, .ref b), (1, .ref (B + 0)), (2, .ref (B + 24 + 0)), (3, .int x3)] → W p l e room_1 s m #[Value.ref b] below meth c H [] (100 + 140 * (k + 1)) (40000 + 4300 * (k + 1)) (lw_Z below #[Value.ref b] s) (F0 m 769 ls [])) (hR : RR k SC SM) (hL : LW D B cy SC SM s.heap H) (hl : lv_has ls 4 [(0, .ref b), (1, .ref (B + 0)), (2, .ref (B + 24 + 0)), (3, .int x3)]) : W p l e room_1 s m #[Value.ref b] below meth c H [] (100 + 140 * k) (40000 + 4300 * k) (lw_Z below #[Value.ref b] s) (F0 m 713 ls []) := by
  obtain ⟨r, Z1, hf1, hst⟩ := hq (xs (x3 + nI 1).toNatClampNeg) (xs (x3 + nI 2).toNatClampNeg) k SC SM hk5 hR
  refine lv_aload_n Xc.1 Xc.2.1 dL_law_713 rfl (lv_at hl 1 rfl) ?_
  refine lv_aload_n Xc.1 Xc.2.1 dL_law_714 rfl (lv_at hl 0 rfl) ?_
  refine lv_iload_n Xc.1 Xc.2.1 dL_law_715 rfl (lv_at hl 3 rfl) ?_
  refine lv_iconst (v := nI 1) Xc.1 Xc.2.1 dL_law_716 (by decide) ?_
  refine lv_iadd Xc.1 Xc.2.1 dL_law_717 ?_
  refine va_sld Xc.1 Xc.2.1 hX hbl hbA hL.N (hin 1 (by decide)) dL_law_718 ?_
  refine lv_aload_n Xc.1 Xc.2.1 dL_law_719 rfl (lv_at hl 0 rfl) ?_
  refine lv_iload_n Xc.1 Xc.2.1 dL_law_720 rfl (lv_at hl 3 rfl) ?_
  refine lv_iconst (v := nI 2) Xc.1 Xc.2.1 dL_law_721 (by decide) ?_
  refine lv_iadd Xc.1 Xc.2.1 dL_law_722 ?_
  refine va_sld Xc.1 Xc.2.1 hX hbl hbA hL.N (hin 2 (by decide)) dL_law_723 ?_
  refine lw_callC (As := [.int (xs (x3 + nI 1).toNatClampNeg), .int (xs (x3 + nI 2).toNatClampNeg)]) (rest := []) (st1 := [.int r]) Xc hL (c_X8_met l D B cy (AC B) ad av (xs (x3 + nI 1).toNatClampNeg) (xs (x3 + nI 2).toNatClampNeg) hL.C.2.2.2.2.1 hL.C.2.2.2.2.2 hf1) ⟨rfl, rfl, Nat.le_of_ble_eq_true rfl, Nat.le_of_ble_eq_true rfl⟩ tw_962 tw_963 tw_964 tw_965 hd_X8_met rfl hl.1 rfl (Nat.le_of_ble_eq_true rfl) dL_law_724 ⟨show 100 + 140 * k + 0 ≤ 600000 by omega, show 40000 + 4300 * k + 0 ≤ 7302250 by omega⟩ rfl (fun H hL => ?_)
  refine W.widen (k := 100 + 140 * (k + 1)) (n := 40000 + 4300 * (k + 1)) (by omega) (by omega) ?_
  obtain ⟨Z2, hf2, hR2⟩ := hst (gZ Z1 - 24) (by have := hL.C.2.2.2.2.2.1; omega)
  refine lv_aload_n Xc.1 Xc.2.1 dL_law_727 rfl (lv_at hl 2 rfl) ?_
  refine lv_aload_n Xc.1 Xc.2.1 dL_law_728 rfl (lv_at hl 0 rfl) ?_
  refine lv_iload_n Xc.1 Xc.2.1 dL_law_729 rfl (lv_at hl 3 rfl) ?_
  refine lv_iconst (v := nI 1) Xc.1 Xc.2.1 dL_law_730 (by decide) ?_
  refine lv_iadd Xc.1 Xc.2.1 dL_law_731 ?_
  refine va_sld Xc.1 Xc.2.1 hX hbl hbA hL.N (hin 1 (by decide)) dL_law_732 ?_
  refine lv_aload_n Xc.1 Xc.2.1 dL_law_733 rfl (lv_at hl 0 rfl) ?_
  refine lv_iload_n Xc.1 Xc.2.1 dL_law_734 rfl (lv_at hl 3 rfl) ?_
  refine lv_iconst (v := nI 2) Xc.1 Xc.2.1 dL_law_735 (by decide) ?_
  refine lv_iadd Xc.1 Xc.2.1 dL_law_736 ?_
  refine va_sld Xc.1 Xc.2.1 hX hbl hbA hL.N (hin 2 (by decide)) dL_law_737 ?_
  refine lw_callM (As := [.int (xs (x3 + nI 1).toNatClampNeg), .int (xs (x3 + nI 2).toNatClampNeg)]) (rest := [.int r]) (st1 := [.int r, .int r]) Xm hL (c_X9_met l D (B + 24) cy (AM B) ad av (xs (x3 + nI 1).toNatClampNeg) (xs (x3 + nI 2).toNatClampNeg) hL.M.2.2.2.2.1 hL.M.2.2.2.2.2 hf2) ⟨rfl, rfl, Nat.le_of_ble_eq_true rfl, Nat.le_of_ble_eq_true rfl⟩ tw_966 tw_967 tw_968 tw_969 hd_X9_met rfl hl.1 rfl (Nat.le_of_ble_eq_true rfl) dL_law_738 ⟨show 100 + 140 * (k + 1) ≤ 600000 by omega, show 40000 + 4300 * (k + 1) ≤ 7302250 by omega⟩ rfl (fun H hL => ?_)
  refine lv_icmp_eq (tgt := 769) Xc.1 Xc.2.1 dL_law_741 (by decide) (fun _ => ?_) (fun h => absurd rfl h)
  exact hnext Z1 Z2 H ls hR2 hL hl
set_option maxHeartbeats 4000000 in
theorem lc_count {p : Program} {l : Launch} {e : Env} {s : State} {m : MethodId} {below : List Frame} {meth : Method} {c : Code} {D : va_G} {B : Nat} {cy : Nat → ClassId} {ad av : Nat → Nat} {b L k : Nat} {xs : Nat → Int32} {RR : Nat → HS → HS → Prop} {SC SM : HS} {H : Heap} {ls : Array Slot} {x3 : Int32} (hq : ∀ (x1 : Int32), LIi RR (fn_X8_count x1) (fn_X9_count x1)) (hLn : L ≤ 3072) (Xc : hCX p s m #[Value.ref b] meth c RL cL_law 4 (some .boolean) D cy (AC B) ad av) (Xm : hCX p s m #[Value.ref b] meth c RL cL_law 4 (some .boolean) D cy (AM B) ad av) (hA : ∀ c, 65 ≤ c → AC B (B + c)) (h99 : cy 99 = ad 9) (hX : va_X b L xs s s.heap) (hbl : b < s.heap.size) (hbA : ¬ (fun q : Nat => s.heap.size ≤ q) b) (hk5 : k < 512) (hin : ∀ j, j < 6 → vp_in (x3 + nI j) L)
    (hnext : ∀ (SC SM : HS) (H : Heap) (ls : Array Slot), RR (k + 1) SC SM → LW D B cy SC SM s.heap H → lv_has ls 4 [(0, .ref b), (1, .ref (B + 0)), (2, .ref (B + 24 + 0)), (3, .int x3)] → W p l e room_1 s m #[Value.ref b] below meth c H [] (100 + 140 * (k + 1)) (40000 + 4300 * (k + 1)) (lw_Z below #[Value.ref b] s) (F0 m 769 ls [])) (hR : RR k SC SM) (hL : LW D B cy SC SM s.heap H) (hl : lv_has ls 4 [(0, .ref b), (1, .ref (B + 0)), (2, .ref (B + 24 + 0)), (3, .int x3)]) : W p l e room_1 s m #[Value.ref b] below meth c H [] (100 + 140 * k) (40000 + 4300 * k) (lw_Z below #[Value.ref b] s) (F0 m 746 ls []) := by
  obtain ⟨r, Z1, hf1, hst⟩ := hq (xs (x3 + nI 1).toNatClampNeg) k SC SM hk5 hR
  refine lv_aload_n Xc.1 Xc.2.1 dL_law_746 rfl (lv_at hl 1 rfl) ?_
  refine lv_aload_n Xc.1 Xc.2.1 dL_law_747 rfl (lv_at hl 0 rfl) ?_
  refine lv_iload_n Xc.1 Xc.2.1 dL_law_748 rfl (lv_at hl 3 rfl) ?_
  refine lv_iconst (v := nI 1) Xc.1 Xc.2.1 dL_law_749 (by decide) ?_
  refine lv_iadd Xc.1 Xc.2.1 dL_law_750 ?_
  refine va_sld Xc.1 Xc.2.1 hX hbl hbA hL.N (hin 1 (by decide)) dL_law_751 ?_
  refine lw_callC (As := [.int (xs (x3 + nI 1).toNatClampNeg)]) (rest := []) (st1 := [.int r]) Xc hL (c_X8_count l D B cy (AC B) ad av (xs (x3 + nI 1).toNatClampNeg) hL.C.2.2.2.2.1 hL.C.2.2.2.2.2 hf1) ⟨rfl, rfl, Nat.le_of_ble_eq_true rfl, Nat.le_of_ble_eq_true rfl⟩ tw_970 tw_971 tw_972 tw_973 hd_X8_count rfl hl.1 rfl (Nat.le_of_ble_eq_true rfl) dL_law_752 ⟨show 100 + 140 * k + 0 ≤ 600000 by omega, show 40000 + 4300 * k + 0 ≤ 7302250 by omega⟩ rfl (fun H hL => ?_)
  refine W.widen (k := 100 + 140 * (k + 1)) (n := 40000 + 4300 * (k + 1)) (by omega) (by omega) ?_
  obtain ⟨Z2, hf2, hR2⟩ := hst (gZ Z1 - 24) (by have := hL.C.2.2.2.2.2.1; omega)
  refine lv_aload_n Xc.1 Xc.2.1 dL_law_755 rfl (lv_at hl 2 rfl) ?_
  refine lv_aload_n Xc.1 Xc.2.1 dL_law_756 rfl (lv_at hl 0 rfl) ?_
  refine lv_iload_n Xc.1 Xc.2.1 dL_law_757 rfl (lv_at hl 3 rfl) ?_
  refine lv_iconst (v := nI 1) Xc.1 Xc.2.1 dL_law_758 (by decide) ?_
  refine lv_iadd Xc.1 Xc.2.1 dL_law_759 ?_
  refine va_sld Xc.1 Xc.2.1 hX hbl hbA hL.N (hin 1 (by decide)) dL_law_760 ?_
  refine lw_callM (As := [.int (xs (x3 + nI 1).toNatClampNeg)]) (rest := [.int r]) (st1 := [.int r, .int r]) Xm hL (c_X9_count l D (B + 24) cy (AM B) ad av (xs (x3 + nI 1).toNatClampNeg) hL.M.2.2.2.2.1 hL.M.2.2.2.2.2 hf2) ⟨rfl, rfl, Nat.le_of_ble_eq_true rfl, Nat.le_of_ble_eq_true rfl⟩ tw_974 tw_975 tw_976 tw_977 hd_X9_count rfl hl.1 rfl (Nat.le_of_ble_eq_true rfl) dL_law_761 ⟨show 100 + 140 * (k + 1) ≤ 600000 by omega, show 40000 + 4300 * (k + 1) ≤ 7302250 by omega⟩ rfl (fun H hL => ?_)
  refine lv_icmp_eq (tgt := 769) Xc.1 Xc.2.1 dL_law_764 (by decide) (fun _ => ?_) (fun h => absurd rfl h)
  exact hnext Z1 Z2 H ls hR2 hL hl
set_option maxHeartbeats 8000000 in
theorem law_loop {p : Program} {l : Launch} {e : Env} {s : State} {m : MethodId} {below : List Frame} {meth : Method} {c : Code} {D : va_G} {B : Nat} {cy : Nat → ClassId} {ad av : Nat → Nat} {b L : Nat} {xs : Nat → Int32} {RR : Nat → HS → HS → Prop} (hRR : LAll RR) (hLn : L ≤ 3072) (Xc : hCX p s m #[Value.ref b] meth c RL cL_law 4 (some .boolean) D cy (AC B) ad av) (Xm : hCX p s m #[Value.ref b] meth c RL cL_law 4 (some .boolean) D cy (AM B) ad av) (h99 : cy 99 = ad 9) (hX : va_X b L xs s s.heap) (hbl : b < s.heap.size) : ∀ (n k : Nat) (SC SM : HS) (H : Heap) (ls : Array Slot) (x3 : Int32), L + 6 ≤ 6 * (k + n) → 6 * k ≤ L → x3 = nI (6 * k) → RR k SC SM → LW D B cy SC SM s.heap H → lv_has ls 4 [(0, .ref b), (1, .ref (B + 0)), (2, .ref (B + 24 + 0)), (3, .int x3)] → W p l e room_1 s m #[Value.ref b] below meth c H [] (100 + 140 * k) (40000 + 4300 * k) (lw_Z below #[Value.ref b] s) (F0 m 18 ls []) := by
  have hA : ∀ c, 65 ≤ c → AC B (B + c) := fun c hc => ⟨by omega, by omega⟩
  have hbA : ¬ (fun q : Nat => s.heap.size ≤ q) b := Nat.not_le.mpr hbl
  intro n
  induction n with
  | zero =>
    intro k SC SM H ls x3 h1 h2
    exact absurd h1 (by omega)
  | succ n ih =>
    intro k SC SM H ls x3 hn hk ex3 hR hL hl
    refine lv_iload_n Xc.1 Xc.2.1 dL_law_18 rfl (lv_at hl 3 rfl) ?_
    refine lv_aload_n Xc.1 Xc.2.1 dL_law_19 rfl (lv_at hl 0 rfl) ?_
    refine va_slen Xc.1 Xc.2.1 hX hbl hbA hL.N dL_law_20 ?_
    refine lv_bipush (v := 6) Xc.1 Xc.2.1 dL_law_21 (by decide) ?_
    refine lv_isub Xc.1 Xc.2.1 dL_law_23 ?_
    refine lv_icmp_gt (tgt := 775) Xc.1 Xc.2.1 dL_law_24 (by decide) (fun hq => ?_) (fun hq => ?_)
    · refine lv_iconst (v := 1) Xc.1 Xc.2.1 dL_law_775 (by decide) ?_
      refine W.widen (k := 600000) (n := 7302250) (by omega) (by omega) ?_
      exact lw_ret Xc.1 Xc.2.1 Xc.2.2.2.2.2.2.2.1 Xc.2.2.2.2.2.2.2.2 dL_law_776
    have hk6 : 6 * k + 6 ≤ L := law_more hLn hk (by rw [← ex3]; exact hq)
    have hk5 : k < 512 := by omega
    have hin : ∀ j, j < 6 → vp_in (x3 + nI j) L := fun j hj => by rw [ex3]; exact law_ix hLn hk6 hj
    have hin0 : vp_in x3 L := by rw [ex3]; exact vp_in_nI (by omega) (by omega)
    have hnext : ∀ (SC SM : HS) (H : Heap) (ls : Array Slot), RR (k + 1) SC SM → LW D B cy SC SM s.heap H → lv_has ls 4 [(0, .ref b), (1, .ref (B + 0)), (2, .ref (B + 24 + 0)), (3, .int x3)] → W p l e room_1 s m #[Value.ref b] below meth c H [] (100 + 140 * (k + 1)) (40000 + 4300 * (k + 1)) (lw_Z below #[Value.ref b] s) (F0 m 769 ls []) := by
      intro SC SM H ls hR hL hl
      refine lv_iinc (v := nI (6 * (k + 1))) (lv' := [(3, .int (nI (6 * (k + 1)))), (0, .ref b), (1, .ref (B + 0)), (2, .ref (B + 24 + 0))]) Xc.1 Xc.2.1 dL_law_769 hl (k := 3) rfl (by rw [ex3]; show nI (6 * k) + nI 6 = _; rw [nI_add, show 6 * k + 6 = 6 * (k + 1) by omega]) (by decide) rfl (fun ls hl => ?_)
      refine lv_goto (tgt := 18) Xc.1 Xc.2.1 dL_law_772 (by decide) ?_
      exact ih (k + 1) SC SM H ls _ (by omega) (by omega) rfl hR hL (lv_sub hl [1, 2, 3, 0] rfl)
    obtain ⟨hmono, q_feed, q_agree, q_fault, q_pass, q_post, q_note, q_look, q_pay, q_due, q_run, q_payment, q_paid, q_cost, q_like, q_pair, q_meet, q_met, q_count⟩ := hRR
    refine lv_aload_n Xc.1 Xc.2.1 dL_law_27 rfl (lv_at hl 0 rfl) ?_
    refine lv_iload_n Xc.1 Xc.2.1 dL_law_28 rfl (lv_at hl 3 rfl) ?_
    refine va_sld Xc.1 Xc.2.1 hX hbl hbA hL.N hin0 dL_law_29 ?_
    refine lv_bipush (v := 31) Xc.1 Xc.2.1 dL_law_30 (by decide) ?_
    refine lv_iand Xc.1 Xc.2.1 dL_law_32 ?_
    generalize xs x3.toNatClampNeg &&& 31 = sw
    by_cases hs0 : sw = 0
    · refine lv_tableIn (off := 87) (tgt := 120) Xc.1 Xc.2.1 dL_law_33 (by rw [hs0]; decide) (by rw [hs0]; decide) (by rw [hs0]; rfl) (by decide) ?_
      exact lc_feed q_feed hLn Xc Xm hA h99 hX hbl hbA hk5 hin hnext hR hL hl
    · by_cases hs1 : sw = 1
      · refine lv_tableIn (off := 150) (tgt := 183) Xc.1 Xc.2.1 dL_law_33 (by rw [hs1]; decide) (by rw [hs1]; decide) (by rw [hs1]; rfl) (by decide) ?_
        exact lc_agree q_agree hLn Xc Xm hA h99 hX hbl hbA hk5 hin hnext hR hL hl
      · by_cases hs2 : sw = 2
        · refine lv_tableIn (off := 183) (tgt := 216) Xc.1 Xc.2.1 dL_law_33 (by rw [hs2]; decide) (by rw [hs2]; decide) (by rw [hs2]; rfl) (by decide) ?_
          exact lc_fault q_fault hLn Xc Xm hA h99 hX hbl hbA hk5 hin hnext hR hL hl
        · by_cases hs3 : sw = 3
          · refine lv_tableIn (off := 206) (tgt := 239) Xc.1 Xc.2.1 dL_law_33 (by rw [hs3]; decide) (by rw [hs3]; decide) (by rw [hs3]; rfl) (by decide) ?_
            exact lc_pass q_pass hLn Xc Xm hA h99 hX hbl hbA hk5 hin hnext hR hL hl
          · by_cases hs4 : sw = 4
            · refine lv_tableIn (off := 229) (tgt := 262) Xc.1 Xc.2.1 dL_law_33 (by rw [hs4]; decide) (by rw [hs4]; decide) (by rw [hs4]; rfl) (by decide) ?_
              exact lc_post q_post hLn Xc Xm hA h99 hX hbl hbA hk5 hin hnext hR hL hl
            · by_cases hs5 : sw = 5
              · refine lv_tableIn (off := 252) (tgt := 285) Xc.1 Xc.2.1 dL_law_33 (by rw [hs5]; decide) (by rw [hs5]; decide) (by rw [hs5]; rfl) (by decide) ?_
                exact lc_note q_note hLn Xc Xm hA h99 hX hbl hbA hk5 hin hnext hR hL hl
              · by_cases hs6 : sw = 6
                · refine lv_tableIn (off := 305) (tgt := 338) Xc.1 Xc.2.1 dL_law_33 (by rw [hs6]; decide) (by rw [hs6]; decide) (by rw [hs6]; rfl) (by decide) ?_
                  exact lc_look q_look hLn Xc Xm hA h99 hX hbl hbA hk5 hin hnext hR hL hl
                · by_cases hs7 : sw = 7
                  · refine lv_tableIn (off := 358) (tgt := 391) Xc.1 Xc.2.1 dL_law_33 (by rw [hs7]; decide) (by rw [hs7]; decide) (by rw [hs7]; rfl) (by decide) ?_
                    exact lc_pay q_pay hLn Xc Xm hA h99 hX hbl hbA hk5 hin hnext hR hL hl
                  · by_cases hs8 : sw = 8
                    · refine lv_tableIn (off := 402) (tgt := 435) Xc.1 Xc.2.1 dL_law_33 (by rw [hs8]; decide) (by rw [hs8]; decide) (by rw [hs8]; rfl) (by decide) ?_
                      exact lc_due q_due hLn Xc Xm hA h99 hX hbl hbA hk5 hin hnext hR hL hl
                    · by_cases hs9 : sw = 9
                      · refine lv_tableIn (off := 446) (tgt := 479) Xc.1 Xc.2.1 dL_law_33 (by rw [hs9]; decide) (by rw [hs9]; decide) (by rw [hs9]; rfl) (by decide) ?_
                        exact lc_run q_run hLn Xc Xm hA h99 hX hbl hbA hk5 hin hnext hR hL hl
                      · by_cases hs10 : sw = 10
                        · refine lv_tableIn (off := 459) (tgt := 492) Xc.1 Xc.2.1 dL_law_33 (by rw [hs10]; decide) (by rw [hs10]; decide) (by rw [hs10]; rfl) (by decide) ?_
                          exact lc_payment q_payment hLn Xc Xm hA h99 hX hbl hbA hk5 hin hnext hR hL hl
                        · by_cases hs11 : sw = 11
                          · refine lv_tableIn (off := 493) (tgt := 526) Xc.1 Xc.2.1 dL_law_33 (by rw [hs11]; decide) (by rw [hs11]; decide) (by rw [hs11]; rfl) (by decide) ?_
                            exact lc_paid q_paid hLn Xc Xm hA h99 hX hbl hbA hk5 hin hnext hR hL hl
                          · by_cases hs12 : sw = 12
                            · refine lv_tableIn (off := 527) (tgt := 560) Xc.1 Xc.2.1 dL_law_33 (by rw [hs12]; decide) (by rw [hs12]; decide) (by rw [hs12]; rfl) (by decide) ?_
                              exact lc_cost q_cost hLn Xc Xm hA h99 hX hbl hbA hk5 hin hnext hR hL hl
                            · by_cases hs13 : sw = 13
                              · refine lv_tableIn (off := 571) (tgt := 604) Xc.1 Xc.2.1 dL_law_33 (by rw [hs13]; decide) (by rw [hs13]; decide) (by rw [hs13]; rfl) (by decide) ?_
                                exact lc_like q_like hLn Xc Xm hA h99 hX hbl hbA hk5 hin hnext hR hL hl
                              · by_cases hs14 : sw = 14
                                · refine lv_tableIn (off := 614) (tgt := 647) Xc.1 Xc.2.1 dL_law_33 (by rw [hs14]; decide) (by rw [hs14]; decide) (by rw [hs14]; rfl) (by decide) ?_
                                  exact lc_pair q_pair hLn Xc Xm hA h99 hX hbl hbA hk5 hin hnext hR hL hl
                                · by_cases hs15 : sw = 15
                                  · refine lv_tableIn (off := 647) (tgt := 680) Xc.1 Xc.2.1 dL_law_33 (by rw [hs15]; decide) (by rw [hs15]; decide) (by rw [hs15]; rfl) (by decide) ?_
                                    exact lc_meet q_meet hLn Xc Xm hA h99 hX hbl hbA hk5 hin hnext hR hL hl
                                  · by_cases hs16 : sw = 16
                                    · refine lv_tableIn (off := 680) (tgt := 713) Xc.1 Xc.2.1 dL_law_33 (by rw [hs16]; decide) (by rw [hs16]; decide) (by rw [hs16]; rfl) (by decide) ?_
                                      exact lc_met q_met hLn Xc Xm hA h99 hX hbl hbA hk5 hin hnext hR hL hl
                                    · by_cases hs17 : sw = 17
                                      · refine lv_tableIn (off := 713) (tgt := 746) Xc.1 Xc.2.1 dL_law_33 (by rw [hs17]; decide) (by rw [hs17]; decide) (by rw [hs17]; rfl) (by decide) ?_
                                        exact lc_count q_count hLn Xc Xm hA h99 hX hbl hbA hk5 hin hnext hR hL hl
                                      · have hout : sw.toInt < 0 ∨ 17 < sw.toInt := by
                                          have g0 := lv_neT (a := 0) hs0 rfl
                                          have g1 := lv_neT (a := 1) hs1 rfl
                                          have g2 := lv_neT (a := 2) hs2 rfl
                                          have g3 := lv_neT (a := 3) hs3 rfl
                                          have g4 := lv_neT (a := 4) hs4 rfl
                                          have g5 := lv_neT (a := 5) hs5 rfl
                                          have g6 := lv_neT (a := 6) hs6 rfl
                                          have g7 := lv_neT (a := 7) hs7 rfl
                                          have g8 := lv_neT (a := 8) hs8 rfl
                                          have g9 := lv_neT (a := 9) hs9 rfl
                                          have g10 := lv_neT (a := 10) hs10 rfl
                                          have g11 := lv_neT (a := 11) hs11 rfl
                                          have g12 := lv_neT (a := 12) hs12 rfl
                                          have g13 := lv_neT (a := 13) hs13 rfl
                                          have g14 := lv_neT (a := 14) hs14 rfl
                                          have g15 := lv_neT (a := 15) hs15 rfl
                                          have g16 := lv_neT (a := 16) hs16 rfl
                                          have g17 := lv_neT (a := 17) hs17 rfl
                                          omega
                                        refine lv_tableOut (tgt := 769) Xc.1 Xc.2.1 dL_law_33 hout (by decide) ?_
                                        refine W.widen (k := 100 + 140 * (k + 1)) (n := 40000 + 4300 * (k + 1)) (by omega) (by omega) ?_
                                        exact hnext SC SM H ls (hmono k SC SM 0 hR) hL hl
