/-! ArrayList: making one, adding to one -/
def sK (S : HS) (c κ : Nat) : HS := (gI S, gR S, gJ S, va_up (gK S) c κ, gN S, gZ S)
def sRf (S : HS) (c : Nat) (f : Nat → Option Nat) : HS := (gI S, va_up (gR S) c f, gJ S, gK S, gN S, gZ S)
theorem gI_sK (S : HS) (c κ : Nat) : gI (sK S c κ) = gI S := rfl
theorem gR_sK (S : HS) (c κ : Nat) : gR (sK S c κ) = gR S := rfl
theorem gJ_sK (S : HS) (c κ : Nat) : gJ (sK S c κ) = gJ S := rfl
theorem gN_sK (S : HS) (c κ : Nat) : gN (sK S c κ) = gN S := rfl
theorem gZ_sK (S : HS) (c κ : Nat) : gZ (sK S c κ) = gZ S := rfl
theorem gK_sK (S : HS) (c κ b : Nat) : gK (sK S c κ) b = if b = c then κ else gK S b := rfl
theorem gI_sRf (S : HS) (c : Nat) (f : Nat → Option Nat) : gI (sRf S c f) = gI S := rfl
theorem gJ_sRf (S : HS) (c : Nat) (f : Nat → Option Nat) : gJ (sRf S c f) = gJ S := rfl
theorem gK_sRf (S : HS) (c : Nat) (f : Nat → Option Nat) : gK (sRf S c f) = gK S := rfl
theorem gN_sRf (S : HS) (c : Nat) (f : Nat → Option Nat) : gN (sRf S c f) = gN S := rfl
theorem gZ_sRf (S : HS) (c : Nat) (f : Nat → Option Nat) : gZ (sRf S c f) = gZ S := rfl
theorem gR_sRf (S : HS) (c : Nat) (f : Nat → Option Nat) (b : Nat) : gR (sRf S c f) b = if b = c then f else gR S b := rfl
theorem hC_aN {S : HS} (h : hC S) (κ n : Nat) : hC (aN S κ n) := by
  obtain ⟨h1, h2, h3, h4, h5⟩ := h
  refine ⟨by rw [gZ_aN]; omega, fun c hc => ?_, fun c hc => ?_, fun q hq => ?_, fun c hc hc2 => ?_⟩
  · rw [gK_aN, if_neg (by omega)]; exact h2 c hc
  · rw [gN_aN, if_neg (by omega)]; exact h3 c hc
  · have := (RCl_k q hq).1
    rw [gR_aN, if_neg (by omega)]; exact h4 q hq
  · rw [gK_aN, if_neg (by omega)]; exact h5 c hc hc2
theorem hC_sRf {S : HS} (h : hC S) {c κ : Nat} {f : Nat → Option Nat} (hk : gK S c = κ) (hκ : κ ≠ 9 ∧ κ ≠ 5 ∧ κ ≠ 7 ∧ κ ≠ 8 ∧ κ ≠ 6) : hC (sRf S c f) := by
  refine ⟨h.1, h.2.1, h.2.2.1, fun q hq => ?_, h.2.2.2.2⟩
  rw [gR_sRf, if_neg]
  · exact h.2.2.2.1 q hq
  · intro z
    obtain ⟨h1, h2⟩ := RCl_k q hq
    have h3 := h.2.1 q.1 h1
    rw [z, hk] at h3
    rw [z] at h2
    omega
theorem hC_sK {S : HS} (h : hC S) {c κ : Nat} (hc : 65 ≤ c) : hC (sK S c κ) := by
  obtain ⟨h1, h2, h3, h4, h5⟩ := h
  refine ⟨h1, fun b hb => ?_, h3, h4, fun b hb hb2 => ?_⟩
  · rw [gK_sK, if_neg (by omega)]; exact h2 b hb
  · rw [gK_sK, if_neg (by omega)]; exact h5 b hb hb2
theorem hC_11 {S : HS} (h : hC S) {c : Nat} (hk : gK S c = 11) : 65 ≤ c := by
  rcases Nat.lt_or_ge c 65 with q | q
  · rcases Nat.lt_or_ge c 24 with q2 | q2
    · have h3 := h.2.1 c q2
      rw [hk] at h3
      have : ∀ c, c < 24 → KCl.getD c 99 ≠ 11 := by decide
      exact absurd h3.symm (this c q2)
    · have := h.2.2.2.2 c q2 q
      omega
  · exact q
def hEl (S : HS) (d : Nat) : Prop := ∀ j, j < gN S d → ∀ y, gR S d j = some y → gK S y = 1 ∨ gK S y = 3 ∨ gK S y = 4
noncomputable def fl_init (c0 : Nat) (S : HS) : Option HS := gd (gK S c0 = 11 ∧ gR S c0 1 = none) (some (sK (sI S c0 0 0) c0 0))
def aC (S : HS) (d n : Nat) : HS := sRf (aN S 25 n) (gZ S) (fun j => if j < gN S d then gR S d j else none)
noncomputable def fl_grow (c0 M : Nat) (S : HS) : Option (Nat × HS) := gd (gK S c0 = 0 ∧ 10 ≤ M) (cs (gR S c0 1) (gd (gI S c0 2 = 0) (some (gZ S, sR (aN S 25 10) c0 1 (some (gZ S))))) (fun d => gd (gK S d = 25 ∧ 2 ≤ gN S d ∧ gN S d + gN S d / 2 ≤ M ∧ M ≤ 10000 ∧ gI S c0 2 = nI (gN S d) ∧ hEl S d) (some (gZ S, sR (aC S d (gN S d + gN S d / 2)) c0 1 (some (gZ S))))))
noncomputable def fl_st (c0 e z : Nat) (s : Int32) (S : HS) : Option HS := gd (gK S z = 25 ∧ gK S c0 = 0 ∧ (gK S e = 1 ∨ gK S e = 3 ∨ gK S e = 4) ∧ vp_in s (gN S z)) (some (sI (sR S z s.toNatClampNeg (some e)) c0 2 (s + 1)))
noncomputable def fl_add3 (c0 e M : Nat) (S : HS) : Option HS := cd (gI S c0 2 = nI ((gR S c0 1).elim 0 (gN S))) (bn2 (fl_grow c0 M S) (fun z S2 => fl_st c0 e z (gI S c0 2) S2)) (bn (gR S c0 1) (fun d => gd (gK S d = 25) (fl_st c0 e d (gI S c0 2) S)))
noncomputable def fl_add (c0 e M : Nat) (S : HS) : Option HS := gd (gK S c0 = 0) (fl_add3 c0 e M (sI S c0 0 (gI S c0 0 + 1)))
noncomputable def fl_ins (c0 e z : Nat) (i s : Int32) (S : HS) : Option HS := gd (gK S z = 25 ∧ ¬ i < 0 ∧ ¬ i + 1 < 0 ∧ ¬ s - i < 0 ∧ i.toNatClampNeg + (s - i).toNatClampNeg ≤ gN S z ∧ (i + 1).toNatClampNeg + (s - i).toNatClampNeg ≤ gN S z ∧ hEl S z) (bn (some (sRf S z (va_cpy (gR S z) (gR S z) i.toNatClampNeg (i + 1).toNatClampNeg (s - i).toNatClampNeg))) (fun S1 => gd (gK S1 z = 25 ∧ gK S1 c0 = 0 ∧ (gK S1 e = 1 ∨ gK S1 e = 3 ∨ gK S1 e = 4) ∧ vp_in i (gN S1 z)) (some (sI (sR S1 z i.toNatClampNeg (some e)) c0 2 (s + 1)))))
noncomputable def fl_addAt3 (c0 e M : Nat) (i : Int32) (S : HS) : Option HS := cd (gI S c0 2 = nI ((gR S c0 1).elim 0 (gN S))) (bn2 (fl_grow c0 M S) (fun z S2 => fl_ins c0 e z i (gI S c0 2) S2)) (bn (gR S c0 1) (fun d => gd (gK S d = 25) (fl_ins c0 e d i (gI S c0 2) S)))
noncomputable def fl_addAt (c0 : Nat) (i : Int32) (e M : Nat) (S : HS) : Option HS := gd (gK S c0 = 0 ∧ ¬ i < 0 ∧ i ≤ gI S c0 2) (fl_addAt3 c0 e M i (sI S c0 0 (gI S c0 0 + 1)))
section JL2R
variable {p : Program} {l : Launch} {e : Env} {R : Room} {s : State} {m : MethodId} {args : Array Value} {below : List Frame} {meth : Method} {c : Code} {H : Heap} {locs : List Loc} {cells slots : Nat} {Q : State → Prop}
variable {cc : ByteArray} {nL : Nat} {ret : Option FieldType} {own : String} {pc : Nat} {ls : Array Slot} {rest : List Value} {D : va_G} {cy : Nat → ClassId} {A : Nat → Prop} {ad av : Nat → Nat} {B : Nat} {ex : Bool} {G : HS → Prop} {S : HS} {H0 : Heap}
theorem hEn_sRf_ne {c b : Nat} {f : Nat → Option Nat} (h : b ≠ c) : hEn B cy (sRf S c f) b = hEn B cy S b := by
  have e : gR (sRf S c f) b = gR S b := by rw [gR_sRf, if_neg h]
  have e2 : ∀ ts, hFs B cy (sRf S c f) b ts = hFs B cy S b ts := by
    intro ts
    unfold hFs
    congr 1
    funext j
    unfold hVl
    rw [e, gI_sRf]
  unfold hEn
  rw [e, e2, gK_sRf, gN_sRf, gJ_sRf, gI_sRf]
theorem hEn_sK_ne {c b κ : Nat} (h : b ≠ c) : hEn B cy (sK S c κ) b = hEn B cy S b := by
  have e : gK (sK S c κ) b = gK S b := by rw [gK_sK, if_neg h]
  have e2 : ∀ ts, hFs B cy (sK S c κ) b ts = hFs B cy S b ts := fun ts => rfl
  unfold hEn
  rw [e, e2, gR_sK, gN_sK, gJ_sK, gI_sK]
/-- modCount, as ArrayList spells it -/
theorem r_getM (X : hCX p s m args meth c own cc nL ret D cy A ad av) (hw : hWd D B cy A ex G S H0 H locs) {idx : Nat} (hl : Cond.fieldLink own idx "java/util/ArrayList" "modCount" "I" ∈ wsL_law) {c0 : Nat} (hκ : gK S c0 = 0) (hd : decode cc pc = .ok (.getfield idx, 3))
    (kk : W p l e R s m args below meth c H locs cells slots Q (F0 m (pc + 3) ls (.int (gI S c0 0) :: rest))) : W p l e R s m args below meth c H locs cells slots Q (F0 m pc ls (.ref (B + c0) :: rest)) := by
  obtain ⟨hx, hb, hml, hown, hts, hK, -⟩ := X
  obtain ⟨hP, hD, hS, hz, hf, hG⟩ := hw
  obtain ⟨q0, hq⟩ := hWs_get (B := B) (cy := cy) (hFr_in hf hκ (by omega))
  rw [hEn_obj hκ (by omega)] at hq
  exact va_get (D := D) (ci := 0) (C := RJx4a65c) (T := TJx4a65c) (N := 3) (v := .int (gI S c0 0)) (ref := "java/util/ArrayList") hx hb hts inlJx4a65c hown hK hP q0 hq rfl 0 (by decide) (hts _ hl) (u_same (hts _ tw_363)) (hFs_get (t := 0) rfl) hd kk
theorem r_putM (X : hCX p s m args meth c own cc nL ret D cy A ad av) (hw : hWd D B cy A ex G S H0 H locs) {idx : Nat} (hl : Cond.fieldLink own idx "java/util/ArrayList" "modCount" "I" ∈ wsL_law) {c0 : Nat} (hκ : gK S c0 = 0) {v : Int32} (hG : G (sI S c0 0 v)) (hd : decode cc pc = .ok (.putfield idx, 3))
    (kk : ∀ (H1 : Heap) (locs1 : List Loc), hWd D B cy A ex G (sI S c0 0 v) H0 H1 locs1 → W p l e R s m args below meth c H1 locs1 cells slots Q (F0 m (pc + 3) ls rest)) : W p l e R s m args below meth c H locs cells slots Q (F0 m pc ls (.int v :: .ref (B + c0) :: rest)) := by
  obtain ⟨hx, hb, hml, hown, hts, hK, -⟩ := X
  have hwk := hw
  obtain ⟨hP, hD, hS, hz, hf, -⟩ := hw
  have hc0 := hFr_in hf hκ (by omega)
  obtain ⟨q0, hq⟩ := hWs_get (B := B) (cy := cy) hc0
  rw [hEn_obj hκ (by omega)] at hq
  have hap := va_apart (own := own) hts inlJx4a65c tyJx4a65c tyJx4a65c_ok nmJx4a65c hK (show vwCl[0]? = some (RJx4a65c, TJx4a65c, 3) from rfl)
  obtain ⟨r, h1, cell, q1, q2, q3, q4⟩ := hP q0 _ hq
  have hr : r = (RJx4a65c, TJx4a65c, 3) := Option.some.inj (h1.symm.trans rfl)
  subst hr
  obtain ⟨hSl, hfc, kC, hkC, hkind⟩ := hK.1 0 (RJx4a65c, TJx4a65c, 3) rfl
  obtain ⟨cf, kf, fi, f, hi, hsl⟩ := hSl 0 (by decide)
  have hlay := hts _ (inlJx4a65c _ (u_in_lay (k := 0) (by decide)))
  have hst := (u_facts hfc hkC (u_lays hts inlJx4a65c (k := 0) (by decide)) hi).1
  unfold u_lay at hlay
  rw [if_neg (by decide)] at hlay
  have h6 := u_store (ty := .int) (v := .int v) hfc hkC hkind hlay hi (tyJx4a65c_ok 0 (by decide)) rfl rfl
  refine W.putK hx hb (f := f) ⟨hown, hts _ hl, ⟨_, _, _, u_same (hts _ tw_363) _ hi⟩, hst⟩ (by rw [q2]; exact h6) q1 q3 (by rw [hsl]; exact k2_hasslot (q4 0 (by decide))) rfl rfl hd fun H' e1 e2 e3 => ?_
  rw [hsl] at e1 ⊢
  refine kk H' _ (hWd_upd (S' := sI S c0 0 v) hwk hc0 ?_ e2 e3 rfl rfl (fun b h => hEn_sI_ne h) hG _)
  have hv : hVl B cy (sI S c0 0 v) 0 c0 0 = .int v := by
    show Value.int (gI (sI S c0 0 v) c0 0) = _
    rw [gI_sI, if_pos ⟨rfl, rfl⟩]
  rw [hEn_obj (S := sI S c0 0 v) (κ := 0) hκ (by omega), ← hFs_set (S := S) (k := 0) (t := 0) rfl (fun j t' h => hVl_sI j t' h), hv]
  exact ⟨_, rfl, t_OB.to (V := updV (vp_V (hFs B cy S c0 (ktl 0))) 0 (.int v)) ⟨_, e1, q2, q3, t_set q4 hap (by decide) (.int v)⟩ (fun j _ => vp_updV_set (by rw [hFs_len]; decide) (.int v) j)⟩
/-- elementData becomes an array of ours -/
theorem r_putD (X : hCX p s m args meth c own cc nL ret D cy A ad av) (hw : hWd D B cy A ex G S H0 H locs) {idx : Nat} (hl : Cond.fieldLink own idx "java/util/ArrayList" "elementData" "[Ljava/lang/Object;" ∈ wsL_law) {c0 z : Nat} (hκ : gK S c0 = 0) (hG : G (sR S c0 1 (some z))) (hd : decode cc pc = .ok (.putfield idx, 3))
    (kk : ∀ (H1 : Heap) (locs1 : List Loc), hWd D B cy A ex G (sR S c0 1 (some z)) H0 H1 locs1 → W p l e R s m args below meth c H1 locs1 cells slots Q (F0 m (pc + 3) ls rest)) : W p l e R s m args below meth c H locs cells slots Q (F0 m pc ls (.ref (B + z) :: .ref (B + c0) :: rest)) := by
  refine r_put0 X hw (S' := sR S c0 1 (some z)) (κ := 0) rfl inlJx4a65c tyJx4a65c tyJx4a65c_ok nmJx4a65c 1 (by decide) (t := 2) rfl (by decide) hl (Or.inl rfl) hκ rfl rfl ?_ (fun j t' h => ?_) rfl rfl (fun b h => hEn_sR_ne h) hG hd kk
  · show Value.ref ((gR (sR S c0 1 (some z)) c0 1).elim (cy 99) (B + ·)) = _
    rw [gR_sR, if_pos ⟨rfl, rfl⟩]
    rfl
  · have e1 : gR (sR S c0 1 (some z)) c0 j = gR S c0 j := by rw [gR_sR, if_neg (fun q => h q.2)]
    unfold hVl
    rw [e1, gI_sR]
/-- elementData of a list that is being made becomes the old empty array -/
theorem r_putE (X : hCX p s m args meth c own cc nL ret D cy A ad av) (hw : hWd D B cy A ex G S H0 H locs) {idx : Nat} (hl : Cond.fieldLink own idx "java/util/ArrayList" "elementData" "[Ljava/lang/Object;" ∈ wsL_law) {c0 : Nat} (hκ : gK S c0 = 11) (hn0 : gR S c0 1 = none) (hG : G (sK S c0 0)) (hd : decode cc pc = .ok (.putfield idx, 3))
    (kk : ∀ (H1 : Heap) (locs1 : List Loc), hWd D B cy A ex G (sK S c0 0) H0 H1 locs1 → W p l e R s m args below meth c H1 locs1 cells slots Q (F0 m (pc + 3) ls rest)) : W p l e R s m args below meth c H locs cells slots Q (F0 m pc ls (.ref (cy 99) :: .ref (B + c0) :: rest)) := by
  obtain ⟨hx, hb, hml, hown, hts, hK, -⟩ := X
  obtain ⟨hP, hD, hS, hz, hf, -⟩ := hw
  have hc0 := hFr_in hf hκ (by omega)
  obtain ⟨q0, hq⟩ := hWs_get (B := B) (cy := cy) hc0
  have hq' := hq
  rw [hEn_obj hκ (by omega)] at hq
  have hap := va_apart (own := own) hts inlJx4a65c tyJx4a65c tyJx4a65c_ok nmJx4a65c hK (show vwCl[0]? = some (RJx4a65c, TJx4a65c, 3) from rfl)
  obtain ⟨r, h1, cell, q1, q2, q3, q4⟩ := hP q0 _ hq
  have hr : r = (RJx4a65c, TJx4a65c, 3) := Option.some.inj (h1.symm.trans rfl)
  subst hr
  obtain ⟨hSl, hfc, kC, hkC, hkind⟩ := hK.1 0 (RJx4a65c, TJx4a65c, 3) rfl
  obtain ⟨cf, kf, fi, f, hi, hsl⟩ := hSl 1 (by decide)
  have hlay := hts _ (inlJx4a65c _ (u_in_lay (k := 1) (by decide)))
  have hst := (u_facts hfc hkC (u_lays hts inlJx4a65c (k := 1) (by decide)) hi).1
  unfold u_lay at hlay
  rw [if_neg (by decide)] at hlay
  have h6 := u_store (v := .ref (cy 99)) hfc hkC hkind hlay hi (tyJx4a65c_ok 1 (by decide)) rfl rfl
  refine W.putK hx hb (f := f) ⟨hown, hts _ hl, ⟨_, _, _, hi⟩, hst⟩ (by rw [q2]; exact h6) q1 q3 (by rw [hsl]; exact k2_hasslot (q4 1 (by decide))) rfl rfl hd fun H' e1 e2 e3 => ?_
  rw [hsl] at e1 ⊢
  have hL : hLv (sK S c0 0) = hLv S := by
    unfold hLv
    rw [gZ_sK]
    apply List.filter_congr
    intro b _
    rw [gK_sK]
    by_cases hb : b = c0
    · rw [if_pos hb, hb, hκ]; rfl
    · rw [if_neg hb]
  have hat : va_at D vwCl (B + c0, hEn B cy (sK S c0 0) c0) H' := by
    rw [hEn_obj (S := sK S c0 0) (κ := 0) (by rw [gK_sK, if_pos rfl]) (by omega)]
    have hfs : hFs B cy (sK S c0 0) c0 (ktl 0) = (hFs B cy S c0 (ktl 11)).set 1 (.ref (cy 99)) := by
      show [Value.int (gI S c0 0), Value.ref ((gR S c0 1).elim (cy 99) (B + ·)), Value.int (gI S c0 2)] = [Value.int (gI S c0 0), Value.ref (cy 99), Value.int (gI S c0 2)]
      rw [hn0]
      rfl
    rw [hfs]
    exact ⟨_, rfl, t_OB.to (V := updV (vp_V (hFs B cy S c0 (ktl 11))) 1 (.ref (cy 99))) ⟨_, e1, q2, q3, t_set q4 hap (by decide) (.ref (cy 99))⟩ (fun j _ => vp_updV_set (by rw [hFs_len]; decide) (.ref (cy 99)) j)⟩
  have s1 := hWs_set (S' := sK S c0 0) hq' hL (fun b h => hEn_sK_ne h)
  have p1 := hP.set hD hq' hat e3
  have d1 := hD.set (e := hEn B cy (sK S c0 0) c0) hq'
  rw [s1] at p1 d1
  refine kk H' _ ⟨p1, d1, hS.put e2 e3 (hD.2 q0 _ hq), fun h => by rw [e2]; exact hz h, fun b hb => ?_, hG⟩
  rw [gZ_sK] at hb
  rw [gK_sK]
  by_cases hbc : b = c0
  · rw [hbc] at hb
    have := hf c0 hb
    omega
  · rw [if_neg hbc]; exact hf b hb
/-- System.arraycopy from one row of objects of ours to another -/
theorem r_copy (X : hCX p s m args meth c own cc nL ret D cy A ad av) (hw : hWd D B cy A ex G S H0 H locs) (hsize : ls.size = nL) {idx d0 d1 : Nat} (w1 : Cond.methodLink own idx arraycopyName ∈ wsL_law) (hκ0 : gK S d0 = 25) (hκ1 : gK S d1 = 25) {sp dp n : Int32} (h1 : ¬ sp < 0) (h2 : ¬ dp < 0) (h3 : ¬ n < 0) (h4 : sp.toNatClampNeg + n.toNatClampNeg ≤ gN S d0) (h5 : dp.toNatClampNeg + n.toNatClampNeg ≤ gN S d1) (hel : hEl S d0)
    (hG : G (sRf S d1 (va_cpy (gR S d0) (gR S d1) sp.toNatClampNeg dp.toNatClampNeg n.toNatClampNeg))) (hfr : 1 ≤ R.frames) (hlo : (rest.map fun v => v.category).sum + 18 ≤ R.locals) (hd : decode cc pc = .ok (.invokestatic idx, 3))
    (kk : ∀ (H1 : Heap) (locs1 : List Loc), hWd D B cy A ex G (sRf S d1 (va_cpy (gR S d0) (gR S d1) sp.toNatClampNeg dp.toNatClampNeg n.toNatClampNeg)) H0 H1 locs1 → W p l e R s m args below meth c H1 locs1 cells slots Q (F0 m (pc + 3) ls rest)) : W p l e R s m args below meth c H locs cells slots Q (F0 m pc ls (.int n :: .int dp :: .ref (B + d1) :: .int sp :: .ref (B + d0) :: rest)) := by
  have hO := X.2.2.2.2.2.2.1.2.2.2.2.2.2.2.2
  obtain ⟨hx, hb, hml, hown, hts, hK, -⟩ := X
  have hwk := hw
  obtain ⟨hP, hD, hS, hz, hf, -⟩ := hw
  obtain ⟨q0, hq0⟩ := hWs_get (B := B) (cy := cy) (hFr_in hf hκ0 (by omega))
  obtain ⟨q1, hq1⟩ := hWs_get (B := B) (cy := cy) (hFr_in hf hκ1 (by omega))
  have hq1' := hq1
  rw [hEn_ref hκ0 (by omega)] at hq0
  rw [hEn_ref hκ1 (by omega)] at hq1
  have key : ∀ (κ : Nat) (C : String) (T : u_T) (N : Nat), vwCl[kcl κ]? = some (C, T, N) → κ < 20 → va_Nw (.castable C "java/lang/Object") s → ∀ v, gK S v = κ → va_Any "java/lang/Object" s H (B + v) := by
    intro κ C T N hc h20 hca v hk
    obtain ⟨qk, hqk⟩ := hWs_get (B := B) (cy := cy) (hFr_in hf hk (by omega))
    rw [hEn_obj hk h20] at hqk
    refine va_rAny hK hP hqk hc (fun comp c1 g1 g2 => ?_)
    obtain ⟨c2, t1, f1, f2, f3⟩ := Cond.castable_spec (va_Nw.use (A := args) rfl hca)
    cases g1.symm.trans f2
    cases g2.symm.trans f1
    exact f3
  have hlo7 : 2 * 0 + (rest.map fun v => v.category).sum + (nativeFrameWords "java/lang/System" "arraycopy" 5 + 11) ≤ R.locals := by
    have h7 : nativeFrameWords "java/lang/System" "arraycopy" 5 = 7 := by decide
    omega
  have nn : ∀ z : Int32, ¬ z < 0 → z.toInt = (z.toNatClampNeg : Int) := by
    intro z hz
    have hz0 : (0 : Int) ≤ z.toInt := by
      have := Int32.not_lt.mp hz
      simpa using Int32.le_iff_toInt_le.mp this
    show z.toInt = ((z.toInt.toNat : Nat) : Int)
    omega
  intro T hT XT
  have hc0 : H[B + d0]? = some (vp_cell (cy 25) (gN S d0, .inr (.inr (.inr (.inr (fun j => (gR S d0 j).map (B + ·))))))) := hP q0 _ hq0
  have hc1 : H[B + d1]? = some (vp_cell (cy 25) (gN S d1, .inr (.inr (.inr (.inr (fun j => (gR S d1 j).map (B + ·))))))) := hP q1 _ hq1
  obtain ⟨-, k0, hk0, cm0, hkk0⟩ := (hK.2 5 _ rfl).1 (gN S d0) (fun j => va_rf ((gR S d0 j).map (B + ·)))
  obtain ⟨-, k1, hk1, cm1, hkk1⟩ := (hK.2 5 _ rfl).1 (gN S d1) (fun j => va_rf ((gR S d1 j).map (B + ·)))
  obtain ⟨vm', X', step⟩ := XT.arraycopy hx hown (hts _ w1) (hts _ tw_402) (hts _ tw_403) (hts _ tw_404) (src := B + d0) (dst := B + d1) (cs := vp_cell (cy 25) (gN S d0, .inr (.inr (.inr (.inr (fun j => (gR S d0 j).map (B + ·))))))) (cd := vp_cell (cy 25) (gN S d1, .inr (.inr (.inr (.inr (fun j => (gR S d1 j).map (B + ·))))))) (srcPos := sp) (destPos := dp) (n := n) (by rw [hT]; exact hc0) (by rw [hT]; exact hc1)
    (fun _ h => by cases h) (fun _ h => by cases h) (fun h => by cases h) (fun h => by cases h) hk0 hk1 hkk0 hkk1 rfl h1 h2 h3
    (by rw [nn sp h1, nn n h3]; show ¬ _ > ((arrV (cy 25) (gN S d0) (fun j => va_rf ((gR S d0 j).map (B + ·)))).slots.size : Int); rw [arrV_size]; omega)
    (by rw [nn dp h2, nn n h3]; show ¬ _ > ((arrV (cy 25) (gN S d1) (fun j => va_rf ((gR S d1 j).map (B + ·)))).slots.size : Int); rw [arrV_size]; omega)
    (fun vm₁ hal i hi => by
      have e : (vp_cell (cy 25) (gN S d0, .inr (.inr (.inr (.inr (fun j => (gR S d0 j).map (B + ·))))))).slots.getD (sp.toNatClampNeg + i) .null = va_rf ((gR S d0 (sp.toNatClampNeg + i)).map (B + ·)) := by
        show (arrV (cy 25) (gN S d0) (fun j => va_rf ((gR S d0 j).map (B + ·)))).slots.getD _ _ = _
        rw [Array.getD_eq_getD_getElem?, arrV_read _ _ (by omega)]
        rfl
      rw [e]
      cases hy : gR S d0 (sp.toNatClampNeg + i) with
      | none => exact ⟨rfl, trivial⟩
      | some y =>
        have hany : va_Any "java/lang/Object" s H (B + y) := by
          rcases hel (sp.toNatClampNeg + i) (by omega) y hy with hv | hv | hv
          · exact key 1 RX0 TX0 4 rfl (by decide) hO.2.2.2.2.2.1 y hv
          · exact key 3 RX2 TX2 10 rfl (by decide) hO.2.2.2.2.1 y hv
          · exact key 4 RX3 TX3 5 rfl (by decide) hO.2.2.2.2.2.2.1 y hv
        obtain ⟨cellV, g1, g2, ⟨kC, hkC⟩, hasg⟩ := hany
        obtain ⟨kA, comp, r1, r2, r3, -⟩ := (hK.2 5 _ rfl).2
        cases hk1.symm.trans r1
        cases hkk1.symm.trans r2
        obtain ⟨kE, hkE, -⟩ := Vm.findClass_spec r3
        obtain ⟨kC', hkC', -⟩ := hal.2.2 _ _ hkC
        obtain ⟨kE', hkE', -⟩ := hal.2.2 _ _ hkE
        refine ⟨rfl, cellV, (show T.heap[B + y]? = some cellV by rw [hT]; exact g1), (fun q h => by rw [h] at g2; cases g2), ⟨kC', hkC'⟩, ?_, ?_⟩
        · exact ⟨kE', hkE'⟩
        · show vm₁.assignable _ _ = true
          rw [hal.assignable]
          exact hasg _ r3)
    (g := F0 m pc ls (.int n :: .int dp :: .ref (B + d1) :: .int sp :: .ref (B + d0) :: rest)) rfl (by rw [hml]; exact hsize) (rest := rest) rfl (by rw [hb]; exact hd) hfr hlo7
  have e1 : copied (vp_cell (cy 25) (gN S d0, .inr (.inr (.inr (.inr (fun j => (gR S d0 j).map (B + ·))))))) (vp_cell (cy 25) (gN S d1, .inr (.inr (.inr (.inr (fun j => (gR S d1 j).map (B + ·))))))) sp dp n = vp_cell (cy 25) (gN S d1, .inr (.inr (.inr (.inr (va_cpy (fun j => (gR S d0 j).map (B + ·)) (fun j => (gR S d1 j).map (B + ·)) sp.toNatClampNeg dp.toNatClampNeg n.toNatClampNeg))))) := by
    rw [vp_cell_q, vp_cell_q, vp_cell_q]
    exact va_copied (fun z => va_rf z) (cy 25) (cy 25) _ _ h4
  rw [e1] at X' step
  have hl : B + d1 < H.size := (Array.getElem?_eq_some_iff.mp hc1).1
  have hfn : va_cpy (fun j => (gR S d0 j).map (B + ·)) (fun j => (gR S d1 j).map (B + ·)) sp.toNatClampNeg dp.toNatClampNeg n.toNatClampNeg = fun j => (gR (sRf S d1 (va_cpy (gR S d0) (gR S d1) sp.toNatClampNeg dp.toNatClampNeg n.toNatClampNeg)) d1 j).map (B + ·) := by
    funext j
    rw [gR_sRf, if_pos rfl]
    unfold va_cpy
    by_cases hj : dp.toNatClampNeg ≤ j ∧ j < dp.toNatClampNeg + n.toNatClampNeg
    · rw [if_pos hj, if_pos hj]
    · rw [if_neg hj, if_neg hj]
  have hcell : vp_cell (cy 25) (gN S d1, .inr (.inr (.inr (.inr (va_cpy (fun j => (gR S d0 j).map (B + ·)) (fun j => (gR S d1 j).map (B + ·)) sp.toNatClampNeg dp.toNatClampNeg n.toNatClampNeg))))) = vp_cell (cy 25) (gN S d1, .inr (.inr (.inr (.inr (fun j => (gR (sRf S d1 (va_cpy (gR S d0) (gR S d1) sp.toNatClampNeg dp.toNatClampNeg n.toNatClampNeg)) d1 j).map (B + ·)))))) := by rw [hfn]
  rw [hcell] at X' step
  generalize hcc : vp_cell (cy 25) (gN S d1, .inr (.inr (.inr (.inr (fun j => (gR (sRf S d1 (va_cpy (gR S d0) (gR S d1) sp.toNatClampNeg dp.toNatClampNeg n.toNatClampNeg)) d1 j).map (B + ·)))))) = nc at X' step
  have hheap : ((T.setVm vm').setCell (B + d1) nc).heap = H.setIfInBounds (B + d1) nc := by rw [← hT]; rfl
  have oq : ∀ q : Nat, q ≠ B + d1 → (H.setIfInBounds (B + d1) nc)[q]? = H[q]? := fun q hq => by simp [Array.getElem?_setIfInBounds, Ne.symm hq]
  have hat : va_at D vwCl (B + d1, hEn B cy (sRf S d1 (va_cpy (gR S d0) (gR S d1) sp.toNatClampNeg dp.toNatClampNeg n.toNatClampNeg)) d1) (H.setIfInBounds (B + d1) nc) := by
    rw [hEn_ref (S := sRf S d1 _) (κ := 25) hκ1 (by omega)]
    show (H.setIfInBounds (B + d1) nc)[B + d1]? = some (vp_cell _ _)
    rw [gN_sRf, hcc]
    simp [Array.getElem?_setIfInBounds, hl]
  have hw1 := hWd_upd (S' := sRf S d1 (va_cpy (gR S d0) (gR S d1) sp.toNatClampNeg dp.toNatClampNeg n.toNatClampNeg)) hwk (hFr_in hf hκ1 (by omega)) hat (by simp) oq rfl rfl (fun b h => hEn_sRf_ne h) hG 0
  obtain ⟨t, a1, b1⟩ := kk _ _ ⟨hw1.1, hw1.2.1, ⟨hw1.2.2.1.1, hw1.2.2.1.2.1, fun q hq => by
      rcases List.mem_append.mp hq with h | h
      · exact hS.2.2 q h
      · obtain ⟨z, -, hz⟩ := List.mem_map.mp h
        rw [← hz]
        exact hD.2 q1 _ hq1'⟩, hw1.2.2.2⟩ _ hheap X'
  exact ⟨t, step t a1, b1⟩
end JL2R
