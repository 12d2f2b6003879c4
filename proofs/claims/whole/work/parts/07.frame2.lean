/-! rows for the class: nullable references, stores of references, casts -/
section HROWS2
variable {p : Program} {l : Launch} {e : Env} {R : Room} {s : State} {m : MethodId} {args : Array Value} {below : List Frame} {meth : Method} {c : Code} {H : Heap} {locs : List Loc} {cells slots : Nat} {Q : State → Prop}
variable {cc : ByteArray} {nL : Nat} {ret : Option FieldType} {own : String} {pc : Nat} {ls : Array Slot} {rest : List Value} {D : va_G} {cy : Nat → ClassId} {A : Nat → Prop} {ad av : Nat → Nat} {B : Nat} {ex : Bool} {G : HS → Prop} {S : HS} {H0 : Heap}
theorem r_aload_nO (hexec : p.tables.exec = Jvm.exec) (hb : c.code = cc) {k : Fin 4} {i : Nat} {o : Option Nat} (hdg : decode cc pc = .ok (.aload_n k, 1)) (hi : (k : Nat) = i) (hl : ls[i]? = some (.val (va_rf o))) (kk : W p l e R s m args below meth c H locs cells slots Q (F0 m (pc + 1) ls (va_rf o :: rest))) : W p l e R s m args below meth c H locs cells slots Q (F0 m pc ls rest) := by
  cases o with
  | none => exact lv_aload_nN hexec hb hdg hi hl kk
  | some a => exact lv_aload_n hexec hb hdg hi hl kk
theorem r_aloadO (hexec : p.tables.exec = Jvm.exec) (hb : c.code = cc) {i : Nat} {o : Option Nat} (hdg : decode cc pc = .ok (.aload i, 2)) (hl : ls[i]? = some (.val (va_rf o))) (kk : W p l e R s m args below meth c H locs cells slots Q (F0 m (pc + 2) ls (va_rf o :: rest))) : W p l e R s m args below meth c H locs cells slots Q (F0 m pc ls rest) := by
  cases o with
  | none => exact lv_aloadN hexec hb hdg hl kk
  | some a => exact lv_aload hexec hb hdg hl kk
theorem r_astore_nO (hexec : p.tables.exec = Jvm.exec) (hb : c.code = cc) {k : Fin 4} {i nL : Nat} {o : Option Nat} {lv lv' : List (Nat × Value)} (hdg : decode cc pc = .ok (.astore_n k, 1)) (hi : (k : Nat) = i) (h : lv_has ls nL lv) (hn : i < nL) (hl : (i, va_rf o) :: lv.filter (fun q => !(q.1 == i) && !(q.1 + 1 == i && q.2.category == 2)) = lv') (kk : ∀ ls' : Array Slot, lv_has ls' nL lv' → W p l e R s m args below meth c H locs cells slots Q (F0 m (pc + 1) ls' rest)) : W p l e R s m args below meth c H locs cells slots Q (F0 m pc ls (va_rf o :: rest)) := by
  cases o with
  | none => exact lv_astore_nN hexec hb hdg hi h hn hl kk
  | some a => exact lv_astore_n hexec hb hdg hi h hn hl kk
theorem r_astoreO (hexec : p.tables.exec = Jvm.exec) (hb : c.code = cc) {i nL : Nat} {o : Option Nat} {lv lv' : List (Nat × Value)} (hdg : decode cc pc = .ok (.astore i, 2)) (h : lv_has ls nL lv) (hn : i < nL) (hl : (i, va_rf o) :: lv.filter (fun q => !(q.1 == i) && !(q.1 + 1 == i && q.2.category == 2)) = lv') (kk : ∀ ls' : Array Slot, lv_has ls' nL lv' → W p l e R s m args below meth c H locs cells slots Q (F0 m (pc + 2) ls' rest)) : W p l e R s m args below meth c H locs cells slots Q (F0 m pc ls (va_rf o :: rest)) := by
  cases o with
  | none => exact lv_astoreN hexec hb hdg h hn hl kk
  | some a => exact lv_astore hexec hb hdg h hn hl kk
theorem r_ifnull (hexec : p.tables.exec = Jvm.exec) (hb : c.code = cc) {o : Option Nat} {off : Int} {tgt : Nat} (hdg : decode cc pc = .ok (.ifnull off, 3)) (ht : (pc : Int) + off = (tgt : Int)) (kt : o = none → W p l e R s m args below meth c H locs cells slots Q (F0 m tgt ls rest)) (kf : ∀ c0 : Nat, o = some c0 → W p l e R s m args below meth c H locs cells slots Q (F0 m (pc + 3) ls rest)) : W p l e R s m args below meth c H locs cells slots Q (F0 m pc ls (va_rf (o.map (B + ·)) :: rest)) := by
  cases o with
  | none => exact lv_ifnullN hexec hb hdg ht (kt rfl)
  | some a => exact lv_ifnull hexec hb hdg (kf a rfl)
theorem r_ifnonnull (hexec : p.tables.exec = Jvm.exec) (hb : c.code = cc) {o : Option Nat} {off : Int} {tgt : Nat} (hdg : decode cc pc = .ok (.ifnonnull off, 3)) (ht : (pc : Int) + off = (tgt : Int)) (kt : ∀ c0 : Nat, o = some c0 → W p l e R s m args below meth c H locs cells slots Q (F0 m tgt ls rest)) (kf : o = none → W p l e R s m args below meth c H locs cells slots Q (F0 m (pc + 3) ls rest)) : W p l e R s m args below meth c H locs cells slots Q (F0 m pc ls (va_rf (o.map (B + ·)) :: rest)) := by
  cases o with
  | none => exact lv_ifnonnullN hexec hb hdg (kf rfl)
  | some a => exact lv_ifnonnull hexec hb hdg ht (kt a rfl)
theorem cs_nk {β : Type} {o : Option Nat} {a y : β} {b : Nat → β} (h : o = none) (hf : cs o a b = y) : a = y := by subst h; exact hf
theorem cs_sk {β : Type} {o : Option Nat} {a y : β} {b : Nat → β} {c0 : Nat} (h : o = some c0) (hf : cs o a b = y) : b c0 = y := by subst h; exact hf
theorem arr_upR {S : HS} {c0 j : Nat} {x : Option Nat} : (fun q => (gR (sR S c0 j x) c0 q).map (B + ·)) = va_up (fun q => (gR S c0 q).map (B + ·)) j (x.map (B + ·)) := by
  funext q
  rw [gR_sR]
  unfold va_up
  by_cases hq : q = j
  · rw [if_pos ⟨rfl, hq⟩, if_pos hq]
  · rw [if_neg (fun z => hq z.2), if_neg hq]
theorem r_aast0 (hw : hWd D B cy A ex G S H0 H locs) {c0 κ : Nat} (hκ : gK S c0 = κ) (h24 : 24 ≤ κ) (h99 : κ ≠ 99) {j : Nat} {x : Option Nat} (hG : G (sR S c0 j x)) {H1 : Heap} (e1 : H1[B + c0]? = some ((vp_cell (cy κ) (gN S c0, .inr (.inr (.inr (.inr (fun q => (gR S c0 q).map (B + ·))))))).setSlot j (va_rf (x.map (B + ·))))) (z : H1.size = H.size) (oq : ∀ q : Nat, q ≠ B + c0 → H1[q]? = H[q]?) (k : Nat) : hWd D B cy A ex G (sR S c0 j x) H0 H1 (locs ++ [⟨B + c0, k⟩]) := by
  have hf := hw.2.2.2.2.1
  have hc0 := hFr_in hf hκ h99
  refine hWd_upd (S' := sR S c0 j x) hw hc0 ?_ z oq rfl rfl (fun b h => hEn_sR_ne h) hG _
  rw [hEn_ref (S := sR S c0 j x) (κ := κ) hκ h24, arr_upR]
  show H1[B + c0]? = some (vp_cell _ _)
  rw [e1]
  rw [vp_cell_q, vp_cell_q, arrV_store]
  congr 2
  funext q
  by_cases hq : q = j
  · subst hq
    simp [updV, va_up]
  · simp [updV, va_up, hq]
/-- null into a row of lines -/
theorem r_aastN (X : hCX p s m args meth c own cc nL ret D cy A ad av) (hw : hWd D B cy A ex G S H0 H locs) {c0 : Nat} (hκ : gK S c0 = 24) {i : Int32} {nn : Nat} (hnn : gN S c0 = nn) (hi : vp_in i nn) (hG : G (sR S c0 i.toNatClampNeg none)) (hd : decode cc pc = .ok (.aastore, 1))
    (kk : ∀ (H1 : Heap) (locs1 : List Loc), hWd D B cy A ex G (sR S c0 i.toNatClampNeg none) H0 H1 locs1 → W p l e R s m args below meth c H1 locs1 cells slots Q (F0 m (pc + 1) ls rest)) : W p l e R s m args below meth c H locs cells slots Q (F0 m pc ls (.null :: .int i :: .ref (B + c0) :: rest)) := by
  subst hnn
  obtain ⟨hx, hb, hml, hown, hts, hK, -⟩ := X
  have hwk := hw
  obtain ⟨hP, hD, hS, hz, hf, -⟩ := hw
  obtain ⟨q0, hq⟩ := hWs_get (B := B) (cy := cy) (hFr_in hf hκ (by omega))
  rw [hEn_ref hκ (by omega)] at hq
  refine va_WaastN (C := "PayScales$Line") hx hb (hP q0 _ hq) ((hK.2 4 _ rfl).1 (gN S c0) (fun j => va_rf ((gR S c0 j).map (B + ·)))) (fun h => by cases h) (by show ¬ (i < 0 ∨ (arrV _ _ _).slots.size ≤ _); rw [arrV_size]; exact hi) rfl rfl hd fun H1 e1 z oq => ?_
  exact kk H1 _ (r_aast0 hwk hκ (by omega) (by omega) hG e1 z oq _)
/-- a line into a row of lines -/
theorem r_aastL (X : hCX p s m args meth c own cc nL ret D cy A ad av) (hw : hWd D B cy A ex G S H0 H locs) {c0 : Nat} (hκ : gK S c0 = 24) {i : Int32} {nn : Nat} (hnn : gN S c0 = nn) (hi : vp_in i nn) {v : Nat} (hv : gK S v = 3) (hG : G (sR S c0 i.toNatClampNeg (some v))) (hd : decode cc pc = .ok (.aastore, 1))
    (kk : ∀ (H1 : Heap) (locs1 : List Loc), hWd D B cy A ex G (sR S c0 i.toNatClampNeg (some v)) H0 H1 locs1 → W p l e R s m args below meth c H1 locs1 cells slots Q (F0 m (pc + 1) ls rest)) : W p l e R s m args below meth c H locs cells slots Q (F0 m pc ls (.ref (B + v) :: .int i :: .ref (B + c0) :: rest)) := by
  subst hnn
  obtain ⟨hx, hb, hml, hown, hts, hK, -⟩ := X
  have hwk := hw
  obtain ⟨hP, hD, hS, hz, hf, -⟩ := hw
  obtain ⟨q0, hq⟩ := hWs_get (B := B) (cy := cy) (hFr_in hf hκ (by omega))
  rw [hEn_ref hκ (by omega)] at hq
  obtain ⟨qk, hqk⟩ := hWs_get (B := B) (cy := cy) (hFr_in hf hv (by omega))
  rw [hEn_obj hv (by omega)] at hqk
  have hlt : i.toNatClampNeg < gN S c0 := Nat.not_le.mp fun q => hi (Or.inr q)
  have h0 : ¬ i < 0 := fun q => hi (Or.inl q)
  obtain ⟨r', hr', cellV, g1, g2, g3, -⟩ := hP qk _ hqk
  have hcls := (hK.1 3 (RX2, TX2, 10) rfl).2
  obtain ⟨kA, comp, k1, k2, k3, -⟩ := (hK.2 4 _ rfl).2
  have hcomp : comp = D.1 3 := Option.some.inj (k3.symm.trans hcls.1)
  subst hcomp
  obtain ⟨kC, hkC, -⟩ := hcls.2
  refine W.aast hx hb (hP q0 _ hq) (fun q h => by cases h) (fun h => by cases h) k1 k2 rfl hkC ⟨h0, by show _ < (arrV _ _ _).slots.size; rw [arrV_size]; exact hlt⟩ g1 (fun q h => by rw [g3] at h; cases h) (by rw [g2]; exact hkC) (by rw [g2]; exact va_assign hcls) rfl rfl hd fun H1 e1 z oq => ?_
  exact kk H1 _ (r_aast0 hwk hκ (by omega) (by omega) hG e1 z oq _)
/-- an object into a row of objects -/
theorem r_aastO (X : hCX p s m args meth c own cc nL ret D cy A ad av) (hw : hWd D B cy A ex G S H0 H locs) {c0 : Nat} (hκ : gK S c0 = 25) {i : Int32} {nn : Nat} (hnn : gN S c0 = nn) (hi : vp_in i nn) {v : Nat} (hv : gK S v = 1 ∨ gK S v = 3 ∨ gK S v = 4) (hG : G (sR S c0 i.toNatClampNeg (some v))) (hd : decode cc pc = .ok (.aastore, 1))
    (kk : ∀ (H1 : Heap) (locs1 : List Loc), hWd D B cy A ex G (sR S c0 i.toNatClampNeg (some v)) H0 H1 locs1 → W p l e R s m args below meth c H1 locs1 cells slots Q (F0 m (pc + 1) ls rest)) : W p l e R s m args below meth c H locs cells slots Q (F0 m pc ls (.ref (B + v) :: .int i :: .ref (B + c0) :: rest)) := by
  subst hnn
  have hO := X.2.2.2.2.2.2.1.2.2.2.2.2.2.2.2
  obtain ⟨hx, hb, hml, hown, hts, hK, -⟩ := X
  have hwk := hw
  obtain ⟨hP, hD, hS, hz, hf, -⟩ := hw
  obtain ⟨q0, hq⟩ := hWs_get (B := B) (cy := cy) (hFr_in hf hκ (by omega))
  rw [hEn_ref hκ (by omega)] at hq
  have hlt : i.toNatClampNeg < gN S c0 := Nat.not_le.mp fun q => hi (Or.inr q)
  have h0 : ¬ i < 0 := fun q => hi (Or.inl q)
  obtain ⟨kA, comp, k1, k2, k3, -⟩ := (hK.2 5 _ rfl).2
  obtain ⟨kE, hkE, -⟩ := Vm.findClass_spec k3
  have key : ∀ (κ : Nat) (C : String) (T : u_T) (N : Nat), vwCl[kcl κ]? = some (C, T, N) → κ < 20 → gK S v = κ → va_Nw (.castable C "java/lang/Object") s → ∃ cellV : Cell, H[B + v]? = some cellV ∧ (∀ k, cellV.vm ≠ .statics k) ∧ (∃ kC, s.vm.classes[cellV.cls]? = some kC) ∧ s.vm.assignable cellV.cls comp = true := by
    intro κ C T N hc h20 hk hca
    obtain ⟨qk, hqk⟩ := hWs_get (B := B) (cy := cy) (hFr_in hf hk (by omega))
    rw [hEn_obj hk h20] at hqk
    obtain ⟨r', hr', cellV, g1, g2, g3, -⟩ := hP qk _ hqk
    have hcls := (hK.1 (kcl κ) (C, T, N) hc).2
    obtain ⟨c1, t1, f1, f2, f3⟩ := Cond.castable_spec (va_Nw.use (A := args) rfl hca)
    cases hcls.1.symm.trans f1
    cases k3.symm.trans f2
    obtain ⟨kC, hkC, -⟩ := hcls.2
    exact ⟨cellV, g1, (fun q h => by rw [g3] at h; cases h), ⟨kC, (by rw [g2]; exact hkC)⟩, (by rw [g2]; exact f3)⟩
  have hk3 : ∃ cellV : Cell, H[B + v]? = some cellV ∧ (∀ k, cellV.vm ≠ .statics k) ∧ (∃ kC, s.vm.classes[cellV.cls]? = some kC) ∧ s.vm.assignable cellV.cls comp = true := by
    rcases hv with hv | hv | hv
    · exact key 1 RX0 TX0 4 rfl (by decide) hv hO.2.2.2.2.2.1
    · exact key 3 RX2 TX2 10 rfl (by decide) hv hO.2.2.2.2.1
    · exact key 4 RX3 TX3 5 rfl (by decide) hv hO.2.2.2.2.2.2.1
  obtain ⟨cellV, g1, g2, ⟨kC, g3⟩, g4⟩ := hk3
  refine W.aast hx hb (hP q0 _ hq) (fun q h => by cases h) (fun h => by cases h) k1 k2 rfl hkE ⟨h0, by show _ < (arrV _ _ _).slots.size; rw [arrV_size]; exact hlt⟩ g1 g2 g3 g4 rfl rfl hd fun H1 e1 z oq => ?_
  exact kk H1 _ (r_aast0 hwk hκ (by omega) (by omega) hG e1 z oq _)
/-- checkcast of an object of its own class -/
theorem r_cast (X : hCX p s m args meth c own cc nL ret D cy A ad av) (hw : hWd D B cy A ex G S H0 H locs) {κ idx N : Nat} {C : String} {T : u_T} (hc : vwCl[kcl κ]? = some (C, T, N)) (h20 : κ < 20) (hl : Cond.classLink own idx C ∈ wsL_law) {c0 : Nat} (hκ : gK S c0 = κ) (hd : decode cc pc = .ok (.checkcast idx, 3))
    (kk : W p l e R s m args below meth c H locs cells slots Q (F0 m (pc + 3) ls (.ref (B + c0) :: rest))) : W p l e R s m args below meth c H locs cells slots Q (F0 m pc ls (.ref (B + c0) :: rest)) := by
  obtain ⟨hx, hb, hml, hown, hts, hK, -⟩ := X
  obtain ⟨hP, hD, hS, hz, hf, -⟩ := hw
  obtain ⟨q0, hq⟩ := hWs_get (B := B) (cy := cy) (hFr_in hf hκ (by omega))
  rw [hEn_obj hκ h20] at hq
  exact va_castE hx hb hown (hts _ hl) (va_recv hK hP hc hq) hd kk
end HROWS2
