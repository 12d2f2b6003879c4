/-! cells that are made -/
def aN (S : HS) (κ n : Nat) : HS := (fun b j => if b = gZ S then 0 else gI S b j, fun b j => if b = gZ S then none else gR S b j, fun b j => if b = gZ S then 0 else gJ S b j, va_up (gK S) (gZ S) κ, va_up (gN S) (gZ S) n, gZ S + 1)
theorem gI_aN (S : HS) (κ n b j : Nat) : gI (aN S κ n) b j = if b = gZ S then 0 else gI S b j := rfl
theorem gR_aN (S : HS) (κ n b j : Nat) : gR (aN S κ n) b j = if b = gZ S then none else gR S b j := rfl
theorem gJ_aN (S : HS) (κ n b j : Nat) : gJ (aN S κ n) b j = if b = gZ S then 0 else gJ S b j := rfl
theorem gK_aN (S : HS) (κ n b : Nat) : gK (aN S κ n) b = if b = gZ S then κ else gK S b := rfl
theorem gN_aN (S : HS) (κ n b : Nat) : gN (aN S κ n) b = if b = gZ S then n else gN S b := rfl
theorem gZ_aN (S : HS) (κ n : Nat) : gZ (aN S κ n) = gZ S + 1 := rfl
theorem hLv_aN (S : HS) (κ n : Nat) (h : κ ≠ 99) : hLv (aN S κ n) = hLv S ++ [gZ S] := by
  unfold hLv
  rw [gZ_aN, List.range_succ, List.filter_append]
  congr 1
  · apply List.filter_congr
    intro c hc
    have h1 : c ≠ gZ S := Nat.ne_of_lt (List.mem_range.mp hc)
    rw [gK_aN, if_neg h1]
  · simp [gK_aN, h]
theorem hEn_aN_ne {B : Nat} {cy : Nat → ClassId} {S : HS} {κ n b : Nat} (h : b ≠ gZ S) : hEn B cy (aN S κ n) b = hEn B cy S b := by
  have e1 : gI (aN S κ n) b = gI S b := by funext j; rw [gI_aN, if_neg h]
  have e2 : gR (aN S κ n) b = gR S b := by funext j; rw [gR_aN, if_neg h]
  have e3 : gJ (aN S κ n) b = gJ S b := by funext j; rw [gJ_aN, if_neg h]
  have e4 : gK (aN S κ n) b = gK S b := by rw [gK_aN, if_neg h]
  have e5 : gN (aN S κ n) b = gN S b := by rw [gN_aN, if_neg h]
  have e6 : ∀ ts, hFs B cy (aN S κ n) b ts = hFs B cy S b ts := by
    intro ts
    unfold hFs
    congr 1
    funext j
    unfold hVl
    rw [e1, e2]
  unfold hEn
  rw [e1, e2, e3, e4, e5, e6]
theorem hWs_aN {B : Nat} {cy : Nat → ClassId} {S : HS} {κ n : Nat} (h : κ ≠ 99) : hWs B cy (aN S κ n) = hWs B cy S ++ [(B + gZ S, hEn B cy (aN S κ n) (gZ S))] := by
  unfold hWs
  rw [hLv_aN S κ n h, List.map_append]
  congr 1
  apply List.map_congr_left
  intro c hc
  have h1 : c ≠ gZ S := Nat.ne_of_lt (hLv_mem.mp hc).1
  rw [hEn_aN_ne h1]
theorem hFr_aN {S : HS} {κ n : Nat} (h : hFr S) : hFr (aN S κ n) := by
  intro c hc
  rw [gZ_aN] at hc
  rw [gK_aN, if_neg (by omega)]
  exact h c (by omega)
section HROWS4
variable {p : Program} {l : Launch} {e : Env} {R : Room} {s : State} {m : MethodId} {args : Array Value} {below : List Frame} {meth : Method} {c : Code} {H : Heap} {locs : List Loc} {cells slots : Nat} {Q : State → Prop}
variable {cc : ByteArray} {nL : Nat} {ret : Option FieldType} {own : String} {pc : Nat} {ls : Array Slot} {rest : List Value} {D : va_G} {cy : Nat → ClassId} {A : Nat → Prop} {ad av : Nat → Nat} {B : Nat} {G : HS → Prop} {S : HS} {H0 : Heap}
theorem hWd_new {κ n : Nat} {H1 : Heap} (hw : hWd D B cy A true G S H0 H locs) (h99 : κ ≠ 99) (hAq : A (B + gZ S)) (hat : va_at D vwCl (B + gZ S, hEn B cy (aN S κ n) (gZ S)) H1) (z1 : H1.size = H.size + 1) (o1 : ∀ q, q < H.size → H1[q]? = H[q]?) (hG : G (aN S κ n)) : hWd D B cy A true G (aN S κ n) H0 H1 locs := by
  obtain ⟨hP, hD, hS, hz, hf, -⟩ := hw
  have hsz := hz rfl
  have hk : ∀ (k : Nat) (x : Nat × va_E), (hWs B cy S)[k]? = some x → H1[x.1]? = H[x.1]? := fun k x hx => o1 x.1 ((hP k x hx).lt)
  refine ⟨?_, ?_, ⟨Nat.le_trans hS.1 (by omega), fun x h1 h2 => (o1 x (Nat.lt_of_lt_of_le h1 hS.1)).trans (hS.2.1 x h1 h2), hS.2.2⟩, fun _ => by rw [z1, hsz, gZ_aN]; omega, hFr_aN hf, hG⟩
  · rw [hWs_aN h99]
    refine (hP.kept hk).app (fun k x hx => ?_)
    have hz : k < 1 := (List.getElem?_eq_some_iff.mp hx).1
    rw [show k = 0 by omega] at hx
    cases hx
    exact hat
  · rw [hWs_aN h99]
    exact hD.push hP hsz.symm hAq
theorem r_new (X : hCX p s m args meth c own cc nL ret D cy A ad av) (hw : hWd D B cy A true G S H0 H locs) {κ idx N : Nat} {C : String} {T : u_T} (hc : vwCl[kcl κ]? = some (C, T, N)) (hin : ∀ w ∈ u_ws C T N, w ∈ wsL_law) (ty0 : Nat → FieldType) (hty : ∀ k, k < N → parseFieldDescriptor (T k).2.2.1 = some (ty0 k)) (h20 : κ < 20) (hlen : (ktl κ).length = N) (hdef : ∀ k, k < N → ((ktl κ).getD k 0 = 0 ∧ defaultValue (ty0 k) = .int 0) ∨ ((ktl κ).getD k 0 = 1 ∧ defaultValue (ty0 k) = .null))
    (w1 : Cond.classLink own idx C ∈ wsL_law) (w2 : Cond.instantiable C N ∈ wsL_law) (w3 : Cond.initialized C ∈ wsL_law) (hAq : A (B + gZ S)) (hG : G (aN S κ 0)) (hcells : cells + 1 ≤ R.cells) (hslots : slots + N ≤ R.slots) (hd : decode cc pc = .ok (.new idx, 3))
    (kk : ∀ H1 : Heap, hWd D B cy A true G (aN S κ 0) H0 H1 locs → W p l e R s m args below meth c H1 locs (cells + 1) (slots + N) Q (F0 m (pc + 3) ls (.ref (B + gZ S) :: rest))) : W p l e R s m args below meth c H locs cells slots Q (F0 m pc ls rest) := by
  obtain ⟨hx, hb, hml, hown, hts, hK, -⟩ := X
  have hKn := hK.1 (kcl κ) _ hc
  have hsz := hw.2.2.2.1 rfl
  refine W.newcK hx hb hown (hts _ w1) (hts _ w2) (hts _ w3) rfl hd hcells hslots hKn.2.1 hsz fun H1 kC hkC e1 z1 o1 => ?_
  refine kk H1 (hWd_new hw (by omega) hAq ?_ (by omega) (fun q hq => o1 q (by omega)) hG)
  have hk1 : gK (aN S κ 0) (gZ S) = κ := by rw [gK_aN, if_pos rfl]
  rw [hEn_obj hk1 h20]
  refine ⟨_, hc, (u_born ty0 hts hin hKn hkC e1 hty).to (fun j hj => ?_)⟩
  have hj2 : j < (ktl κ).length := by rw [hlen]; exact hj
  have h3 : (ktl κ)[j]? = some ((ktl κ).getD j 0) := by rw [List.getD_eq_getElem?_getD, List.getElem?_eq_getElem hj2]; rfl
  show defaultValue (ty0 j) = vp_V (hFs B cy (aN S κ 0) (gZ S) (ktl κ)) j
  unfold vp_V
  rw [List.getD_eq_getElem?_getD, hFs_get h3]
  rcases hdef j hj with ⟨h1, h2⟩ | ⟨h1, h2⟩
  · rw [h1, h2]
    show _ = Value.int (gI (aN S κ 0) (gZ S) j)
    rw [gI_aN, if_pos rfl]
  · rw [h1, h2]
    show _ = va_rf ((gR (aN S κ 0) (gZ S) j).map (B + ·))
    rw [gR_aN, if_pos rfl]
    rfl
theorem r_newa (X : hCX p s m args meth c own cc nL ret D cy A ad av) (hw : hWd D B cy A true G S H0 H locs) {κ : Nat} {atype : ArrayType} {ty : FieldType} (hty : newarray.typeOf atype = ty) (hκ : (κ = 20 ∧ ty = .byte) ∨ (κ = 21 ∧ ty = .int) ∨ (κ = 22 ∧ ty = .long) ∨ (κ = 23 ∧ ty = .boolean)) (w1 : Cond.arrayClass ty ∈ wsL_law) {n : Int32} {N : Nat} (hn : ¬ n < 0) (hN : n.toNatClampNeg = N) (hb8 : N ≤ 60000) (hAq : A (B + gZ S)) (hG : G (aN S κ N)) (hcells : cells + 1 ≤ R.cells) (hslots : slots + N ≤ R.slots) (hd : decode cc pc = .ok (.newarray atype, 2))
    (kk : ∀ H1 : Heap, hWd D B cy A true G (aN S κ N) H0 H1 locs → W p l e R s m args below meth c H1 locs (cells + 1) (slots + N) Q (F0 m (pc + 2) ls (.ref (B + gZ S) :: rest))) : W p l e R s m args below meth c H locs cells slots Q (F0 m pc ls (.int n :: rest)) := by
  obtain ⟨hx, hb, hml, hown, hts, hK, -⟩ := X
  have hsz := hw.2.2.2.1 rfl
  subst hty
  have hbytes : N * componentBytes (newarray.typeOf atype) ≤ 536870912 := by
    rcases hκ with ⟨-, h⟩ | ⟨-, h⟩ | ⟨-, h⟩ | ⟨-, h⟩ <;> rw [h] <;> simp only [componentBytes] <;> omega
  refine va_newaK hx hb (hts _ w1) rfl hd rfl hn hN hbytes hcells hslots hsz fun H1 cA e1 z1 o1 hAr hNm => ?_
  refine kk H1 (hWd_new hw (by omega) hAq ?_ (by omega) (fun q hq => o1 q (by omega)) hG)
  have hk1 : gK (aN S κ N) (gZ S) = κ := by rw [gK_aN, if_pos rfl]
  have hn1 : gN (aN S κ N) (gZ S) = N := by rw [gN_aN, if_pos rfl]
  have hi1 : gI (aN S κ N) (gZ S) = fun _ => 0 := by funext j; rw [gI_aN, if_pos rfl]
  have hj1 : gJ (aN S κ N) (gZ S) = fun _ => 0 := by funext j; rw [gJ_aN, if_pos rfl]
  rcases hκ with ⟨rfl, h⟩ | ⟨rfl, h⟩ | ⟨rfl, h⟩ | ⟨rfl, h⟩
  · rw [h] at e1 hNm
    have hcA : cA = cy 20 := Option.some.inj (hNm.symm.trans (hK.2 0 _ rfl).2)
    rw [hEn_int hk1 (by omega), hn1, hi1, ← hcA]
    exact e1
  · rw [h] at e1 hNm
    have hcA : cA = cy 21 := Option.some.inj (hNm.symm.trans (hK.2 1 _ rfl).2)
    rw [hEn_int hk1 (by omega), hn1, hi1, ← hcA]
    exact e1
  · rw [h] at e1 hNm
    have hcA : cA = cy 22 := Option.some.inj (hNm.symm.trans (hK.2 2 _ rfl).2)
    rw [hEn_long hk1, hn1, hj1, ← hcA]
    exact e1
  · rw [h] at e1 hNm
    have hcA : cA = cy 23 := Option.some.inj (hNm.symm.trans (hK.2 3 _ rfl).2)
    rw [hEn_int hk1 (by omega), hn1, hi1, ← hcA]
    exact e1
theorem r_newq (X : hCX p s m args meth c own cc nL ret D cy A ad av) (hw : hWd D B cy A true G S H0 H locs) {κ : Nat} {C : String} {idx : Nat} (hκ : (κ = 24 ∧ C = "PayScales$Line") ∨ (κ = 25 ∧ C = "java/lang/Object")) (w1 : Cond.classLink own idx C ∈ wsL_law) {n : Int32} {N : Nat} (hn : ¬ n < 0) (hN : n.toNatClampNeg = N) (hb8 : N ≤ 60000) (hAq : A (B + gZ S)) (hG : G (aN S κ N)) (hcells : cells + 1 ≤ R.cells) (hslots : slots + N ≤ R.slots) (hd : decode cc pc = .ok (.anewarray idx, 3))
    (kk : ∀ H1 : Heap, hWd D B cy A true G (aN S κ N) H0 H1 locs → W p l e R s m args below meth c H1 locs (cells + 1) (slots + N) Q (F0 m (pc + 3) ls (.ref (B + gZ S) :: rest))) : W p l e R s m args below meth c H locs cells slots Q (F0 m pc ls (.int n :: rest)) := by
  have hO := X.2.2.2.2.2.2.1.2.2.2.2.2.2.2.2
  obtain ⟨hx, hb, hml, hown, hts, hK, -⟩ := X
  have hsz := hw.2.2.2.1 rfl
  subst hN
  have hov : (Cond.arrayOver (.object C)).before args s = true := by
    rcases hκ with ⟨-, rfl⟩ | ⟨-, rfl⟩
    · exact va_AO.use hO.2.1
    · exact va_AO.use hO.1
  refine W.anew hx hb hown (hts _ w1) hov rfl hd rfl hn (by omega) hcells hslots fun cA kA comp f1 f2 f3 f4 => ?_
  rw [hsz]
  have z1 : (H.push ({ cls := cA, slots := Array.replicate n.toNatClampNeg .null, vm := .none } : Cell)).size = H.size + 1 := by rw [Array.size_push]
  have e1 : (H.push ({ cls := cA, slots := Array.replicate n.toNatClampNeg .null, vm := .none } : Cell))[B + gZ S]? = some (arrV cA n.toNatClampNeg (fun _ => .null)) := by rw [← hsz, Array.getElem?_push_size, ← arrV_new]
  have o1 : ∀ q : Nat, q < H.size → (H.push ({ cls := cA, slots := Array.replicate n.toNatClampNeg .null, vm := .none } : Cell))[q]? = H[q]? := fun q hq => by rw [Array.getElem?_push, if_neg (Nat.ne_of_lt hq)]
  refine kk _ (hWd_new hw (by omega) hAq ?_ z1 o1 hG)
  have hk1 : gK (aN S κ n.toNatClampNeg) (gZ S) = κ := by rw [gK_aN, if_pos rfl]
  have hn1 : gN (aN S κ n.toNatClampNeg) (gZ S) = n.toNatClampNeg := by rw [gN_aN, if_pos rfl]
  have hr1 : (fun j => (gR (aN S κ n.toNatClampNeg) (gZ S) j).map (B + ·)) = fun _ => none := by funext j; rw [gR_aN, if_pos rfl]; rfl
  rw [hEn_ref hk1 (by omega), hn1, hr1]
  rcases hκ with ⟨rfl, rfl⟩ | ⟨rfl, rfl⟩
  · obtain ⟨kA', comp', r1, r2, r3, r4⟩ := (hK.2 4 _ rfl).2
    have hcA : cA = cy 24 := Option.some.inj (f1.symm.trans r4)
    rw [← hcA]
    show _ = some (vp_cell _ _)
    rw [vp_cell_q]
    exact e1
  · obtain ⟨kA', comp', r1, r2, r3, r4⟩ := (hK.2 5 _ rfl).2
    have hcA : cA = cy 25 := Option.some.inj (f1.symm.trans r4)
    rw [← hcA]
    show _ = some (vp_cell _ _)
    rw [vp_cell_q]
    exact e1
/-- Object's constructor -/
theorem r_objInit (X : hCX p s m args meth c own cc nL ret D cy A ad av) {idx a : Nat} (w1 : Cond.methodLink own idx objectInit ∈ wsL_law) (hsize : ls.size = nL) (hfr : 1 ≤ R.frames) (hlo : (rest.map fun v => v.category).sum + 12 ≤ R.locals) (hd : decode cc pc = .ok (.invokespecial idx, 3))
    (kk : W p l e R s m args below meth c H locs cells slots Q (F0 m (pc + 3) ls rest)) : W p l e R s m args below meth c H locs cells slots Q (F0 m pc ls (.ref a :: rest)) :=
  W.objInit X.1 X.2.1 X.2.2.2.1 (X.2.2.2.2.1 _ w1) (X.2.2.2.2.1 _ tw_10) (X.2.2.2.2.1 _ tw_11) rfl (hsize.trans X.2.2.1.symm) rfl hd hfr (by show 2 * 0 + _ + 12 ≤ _; omega) kk
/-- a call of a constructor -/
theorem r_callI {ex : Bool} {y : MethodName} {bytes : ByteArray} {maxL idx n mc ms a : Nat} {rm : Room} {Z : HS} {ov : Option Value} {As : List Value} {st0 : List Value} (X : hCX p s m args meth c own cc nL ret D cy A ad av) (hw : hWd D B cy A ex G S s.heap H locs) (hM : hMet l y bytes maxL none rm D B cy A ad av ex G (.ref a :: As) S Z ov mc ms)
    (hrm : rm.cells = mc ∧ rm.slots = ms ∧ rm.frames + 1 ≤ R.frames ∧ 8 + (maxL + 11) + rm.locals ≤ R.locals)
    (w1 : Cond.methodLink own idx y ∈ wsL_law) (w2 : Cond.instanceMethod y ∈ wsL_law) (w4 : Cond.initialized y.cls ∈ wsL_law) (w5 : Cond.code y bytes maxL none ∈ wsL_law) (hy : y.name = "<init>") (hd0 : y.cls ≠ "java/lang/invoke/MethodHandle" ∧ y.cls ≠ "java/lang/invoke/VarHandle" ∧ (parseMethodDescriptor y.desc).map (fun d => d.parameters.length) = some n)
    (hn : As.length = n) (hsize : ls.size = nL) (hst : st0 = As.reverse ++ .ref a :: rest) (hWt : (rest.map fun v => v.category).sum ≤ 8) (hd : decode cc pc = .ok (.invokespecial idx, 3)) (hf : cells + mc ≤ R.cells ∧ slots + ms ≤ R.slots) {st1 : List Value} (hst1 : ov.toList ++ rest = st1)
    (kk : ∀ (H1 : Heap) (locs1 : List Loc), hWd D B cy A ex G Z s.heap H1 locs1 → W p l e R s m args below meth c H1 locs1 (cells + mc) (slots + ms) Q (F0 m (pc + 3) ls st1)) : W p l e R s m args below meth c H locs cells slots Q (F0 m pc ls st0) := by
  subst hst1
  have hX := X
  obtain ⟨hx, hb, hml, hown, hts, hK, -⟩ := X
  have cb : CallB R s args own idx y bytes maxL none (Cond.code y bytes maxL none :: wsL_law) rm mc ms n := callB_of n hts (tw_inT w5) rfl hrm.1 hrm.2.1 (hts _ w4) (hts _ w1) hd0 hrm.2.2
  exact h_call hw (va_runI (As := As) (rest := rest) ⟨hx, hb, hml, hown, hts⟩ hM ⟨cb, hy, hts _ w2⟩ ⟨h_blind, h_pre hX hw⟩ rfl hn hsize hst (lv_room hWt) hd hf) kk
/-- a call of a nest mate's private constructor -/
theorem r_callIN {ex : Bool} {y : MethodName} {bytes : ByteArray} {maxL idx n mc ms a : Nat} {rm : Room} {Z : HS} {ov : Option Value} {As : List Value} {st0 : List Value} {host : String} (X : hCX p s m args meth c own cc nL ret D cy A ad av) (hw : hWd D B cy A ex G S s.heap H locs) (hM : hMet l y bytes maxL none rm D B cy A ad av ex G (.ref a :: As) S Z ov mc ms)
    (hrm : rm.cells = mc ∧ rm.slots = ms ∧ rm.frames + 1 ≤ R.frames ∧ 8 + (maxL + 11) + rm.locals ≤ R.locals)
    (w1 : va_Nw (.methodLinkNest own idx y host) s) (w2 : Cond.instanceMethod y ∈ wsL_law) (w4 : Cond.initialized y.cls ∈ wsL_law) (w5 : Cond.code y bytes maxL none ∈ wsL_law) (hy : y.name = "<init>") (hd0 : y.cls ≠ "java/lang/invoke/MethodHandle" ∧ y.cls ≠ "java/lang/invoke/VarHandle" ∧ (parseMethodDescriptor y.desc).map (fun d => d.parameters.length) = some n)
    (hn : As.length = n) (hsize : ls.size = nL) (hst : st0 = As.reverse ++ .ref a :: rest) (hWt : (rest.map fun v => v.category).sum ≤ 8) (hd : decode cc pc = .ok (.invokespecial idx, 3)) (hf : cells + mc ≤ R.cells ∧ slots + ms ≤ R.slots) {st1 : List Value} (hst1 : ov.toList ++ rest = st1)
    (kk : ∀ (H1 : Heap) (locs1 : List Loc), hWd D B cy A ex G Z s.heap H1 locs1 → W p l e R s m args below meth c H1 locs1 (cells + mc) (slots + ms) Q (F0 m (pc + 3) ls st1)) : W p l e R s m args below meth c H locs cells slots Q (F0 m pc ls st0) := by
  subst hst1
  have hX := X
  obtain ⟨hx, hb, hml, hown, hts, hK, -⟩ := X
  exact h_call hw (va_runIN (As := As) (rest := rest) (host := host) ⟨hx, hb, hml, hown, hts⟩ hM ⟨va_cnB n hts (tw_inT w5) rfl hrm.1 hrm.2.1 w1 (hts _ w4) hd0 hrm.2.2, hy, hts _ w2⟩ ⟨h_blind, h_pre hX hw⟩ rfl hn hsize hst (lv_room hWt) hd hf) kk
end HROWS4
