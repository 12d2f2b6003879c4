/-! the law: two worlds side by side -/
def sZ (S : HS) (z : Nat) : HS := (gI S, gR S, gJ S, gK S, gN S, z)
theorem gI_sZ (S : HS) (z : Nat) : gI (sZ S z) = gI S := rfl
theorem gR_sZ (S : HS) (z : Nat) : gR (sZ S z) = gR S := rfl
theorem gJ_sZ (S : HS) (z : Nat) : gJ (sZ S z) = gJ S := rfl
theorem gK_sZ (S : HS) (z : Nat) : gK (sZ S z) = gK S := rfl
theorem gN_sZ (S : HS) (z : Nat) : gN (sZ S z) = gN S := rfl
theorem gZ_sZ (S : HS) (z : Nat) : gZ (sZ S z) = z := rfl
theorem hLv_sZ {S : HS} (h : hFr S) {z : Nat} (hz : gZ S ≤ z) : hLv (sZ S z) = hLv S := by
  unfold hLv
  rw [gZ_sZ, gK_sZ]
  obtain ⟨d, rfl⟩ := Nat.exists_eq_add_of_le hz
  clear hz
  induction d with
  | zero => rfl
  | succ d ih =>
    rw [Nat.add_succ, List.range_succ, List.filter_append, ih]
    have : ¬ gK S (gZ S + d) ≠ 99 := fun q => q (h _ (by omega))
    simp [this]
theorem hLv_min {S : HS} {y z : Nat} (hy : ∀ c, y ≤ c → gK S c = 99) (h1 : y ≤ gZ S) (h2 : y ≤ z) : hLv (sZ S z) = hLv S := by
  have e : ∀ w, y ≤ w → hLv (sZ S w) = hLv (sZ S y) := by
    intro w hw
    have hf : hFr (sZ S y) := fun c hc => hy c hc
    exact hLv_sZ hf hw
  rw [e z h2, ← e (gZ S) h1]
  rfl
theorem hWs_sZ {B : Nat} {cy : Nat → ClassId} {S : HS} {y z : Nat} (hy : ∀ c, y ≤ c → gK S c = 99) (h1 : y ≤ gZ S) (h2 : y ≤ z) : hWs B cy (sZ S z) = hWs B cy S := by
  unfold hWs
  rw [hLv_min hy h1 h2]
  rfl
theorem KM_99 : ∀ c, 41 ≤ c → KM c = 99 := by
  intro c hc
  unfold KM
  rw [List.getD_eq_getElem?_getD, List.getElem?_eq_none_iff.mpr (by show 41 ≤ c; omega)]
  rfl
theorem hM_sZ {S : HS} (h : hM S) {z : Nat} (hz : 41 ≤ z) : hM (sZ S z) := ⟨h.1, h.2.1, h.2.2.1, hz⟩
def AM (B : Nat) : Nat → Prop := fun q => B + 24 ≤ q ∧ q < B + 65
def AC (B : Nat) : Nat → Prop := fun q => B ≤ q ∧ ¬ (B + 24 ≤ q ∧ q < B + 65)
def LW (D : va_G) (B : Nat) (cy : Nat → ClassId) (SC SM : HS) (H0 H : Heap) : Prop :=
  va_P D vwCl (hWs B cy SC) H ∧ va_D (AC B) (hWs B cy SC) ∧ va_P D vwCl (hWs (B + 24) cy SM) H ∧ va_D (AM B) (hWs (B + 24) cy SM) ∧ (B = H0.size ∧ ∀ q, q < H0.size → H[q]? = H0[q]?) ∧ (H.size = B + gZ SC ∧ H.size = B + 24 + gZ SM) ∧ hFr SC ∧ hC SC ∧ hM SM
theorem LW.C {D : va_G} {B : Nat} {cy : Nat → ClassId} {SC SM : HS} {H0 H : Heap} (h : LW D B cy SC SM H0 H) : hWd D B cy (AC B) true hC SC H0 H [] := by
  obtain ⟨h1, h2, h3, h4, ⟨hb, h5⟩, ⟨h6, h7⟩, h8, h9, h10⟩ := h
  exact ⟨h1, h2, ⟨by omega, fun q hq _ => h5 q hq, fun _ h => by cases h⟩, fun _ => h6, h8, h9⟩
theorem LW.M {D : va_G} {B : Nat} {cy : Nat → ClassId} {SC SM : HS} {H0 H : Heap} (h : LW D B cy SC SM H0 H) : hWd D (B + 24) cy (AM B) true (hMz (gZ SM)) SM H0 H [] := by
  obtain ⟨h1, h2, h3, h4, ⟨hb, h5⟩, ⟨h6, h7⟩, h8, h9, h10⟩ := h
  exact ⟨h3, h4, ⟨by omega, fun q hq _ => h5 q hq, fun _ h => by cases h⟩, fun _ => h7, hMfr h10, h10, rfl⟩
theorem LW.N {D : va_G} {B : Nat} {cy : Nat → ClassId} {SC SM : HS} {H0 H : Heap} (h : LW D B cy SC SM H0 H) : va_S (fun q => H0.size ≤ q) H0 H [] := by
  obtain ⟨h1, h2, h3, h4, ⟨hb, h5⟩, ⟨h6, h7⟩, h8, h9, h10⟩ := h
  exact ⟨by omega, fun q hq _ => h5 q hq, fun _ h => by cases h⟩
section LAW1
variable {p : Program} {l : Launch} {e : Env} {R : Room} {s : State} {m : MethodId} {args : Array Value} {below : List Frame} {meth : Method} {c : Code} {H : Heap} {cells slots : Nat} {Q : State → Prop}
variable {cc : ByteArray} {nL : Nat} {ret : Option FieldType} {own : String} {pc : Nat} {ls : Array Slot} {rest : List Value} {D : va_G} {cy : Nat → ClassId} {ad av : Nat → Nat} {B : Nat} {SC SM : HS}
/-- a call of the class -/
theorem lw_callC {y : MethodName} {bytes : ByteArray} {maxL idx n mc ms : Nat} {rt : Option FieldType} {rm : Room} {Z : HS} {ov : Option Value} {As : List Value} {st0 : List Value} (X : hCX p s m args meth c own cc nL ret D cy (AC B) ad av) (hL : LW D B cy SC SM s.heap H) (hM0 : hMet l y bytes maxL rt rm D B cy (AC B) ad av true hC (.ref (B + 0) :: As) SC Z ov mc ms)
    (hrm : rm.cells = mc ∧ rm.slots = ms ∧ rm.frames + 1 ≤ R.frames ∧ 8 + (maxL + 11) + rm.locals ≤ R.locals)
    (w1 : Cond.methodLink own idx y ∈ wsL_law) (w2 : Cond.instanceMethod y ∈ wsL_law) (w3 : Cond.selects RX8 y y ∈ wsL_law) (w5 : Cond.code y bytes maxL rt ∈ wsL_law) (hd0 : y.cls = RX8 ∧ y.cls ≠ "java/lang/invoke/MethodHandle" ∧ y.cls ≠ "java/lang/invoke/VarHandle" ∧ (parseMethodDescriptor y.desc).map (fun d => d.parameters.length) = some n)
    (hn : As.length = n) (hsize : ls.size = nL) (hst : st0 = As.reverse ++ .ref (B + 0) :: rest) (hWt : (rest.map fun v => v.category).sum ≤ 8) (hd : decode cc pc = .ok (.invokevirtual idx, 3)) (hf : cells + mc ≤ R.cells ∧ slots + ms ≤ R.slots) {st1 : List Value} (hst1 : ov.toList ++ rest = st1)
    (kk : ∀ H1 : Heap, LW D B cy Z (sZ SM (gZ Z - 24)) s.heap H1 → W p l e R s m args below meth c H1 [] (cells + mc) (slots + ms) Q (F0 m (pc + 3) ls st1)) : W p l e R s m args below meth c H [] cells slots Q (F0 m pc ls st0) := by
  subst hst1
  have hX := X
  have hw := hL.C
  obtain ⟨hx, hb, hml, hown, hts, hK, -⟩ := X
  have hκ : gK SC 0 = 9 := hCk hw.2.2.2.2.2 0 (by decide) rfl
  obtain ⟨q0, hq⟩ := hWs_get (B := B) (cy := cy) (hFr_in hw.2.2.2.2.1 hκ (by omega))
  rw [hEn_obj hκ (by omega)] at hq
  obtain ⟨hC0, hd1⟩ := hd0
  have cb : CallB R s args own idx y bytes maxL rt (Cond.code y bytes maxL rt :: wsL_law) rm mc ms n := callB_of n hts (tw_inT w5) rfl hrm.1 hrm.2.1 (by rw [hC0]; exact hts _ tw_2) (hts _ w1) hd1 hrm.2.2
  have hr := va_runV (e := e) (below := below) (meth := meth) (As := As) (rest := rest) (C := RX8) (locs := []) (cells := cells) (slots := slots) (g := F0 m pc ls st0) ⟨hx, hb, hml, hown, hts⟩ hM0 ⟨cb, hts _ w2, hts _ w3⟩ ⟨h_blind, va_recv hK hw.1 (show vwCl[kcl 9]? = some (RX8, TX8, 18) from rfl) hq, h_pre hX hw⟩ rfl hn hsize hst (lv_room hWt) hd hf
  intro T hT XT
  obtain ⟨v, st₀, t, T', L, h0, X', hLo, e1, e2, ⟨hv, ⟨hP, hD, hz, hfr, hG⟩, hz2, hk⟩, st⟩ := hr T hT XT
  have hv' : v = ov := by cases hv; rfl
  subst hv'
  rw [h0] at hz2 hk
  obtain ⟨g1, g2, g3, g4, ⟨gb, g5⟩, ⟨g6, g7⟩, g8, g9, g10⟩ := hL
  have hzz := hz rfl
  have h68 : 65 ≤ gZ Z := hG.1
  have hout : ∀ q, q < H.size → ¬ AC B q → T'.heap[q]? = H[q]? := fun q h1 h2 => by rw [e1]; exact hk q h1 h2
  have hKM : ∀ cc0, 41 ≤ cc0 → gK SM cc0 = 99 := fun c0 h => by rw [g10.1]; exact KM_99 c0 h
  have eWs : hWs (B + 24) cy (sZ SM (gZ Z - 24)) = hWs (B + 24) cy SM := hWs_sZ hKM g10.2.2.2 (by omega)
  have hsT : T'.heap.size = B + gZ Z := by rw [e1]; exact hzz
  obtain ⟨t2, a1, b1⟩ := kk T'.heap ⟨by rw [e1]; exact hP, hD, by
      rw [eWs]
      exact g3.kept (fun k x hx0 => hout x.1 ((g3 k x hx0).lt) (fun q => q.2 (g4.2 k x hx0))), by rw [eWs]; exact g4, ⟨gb, fun q hq => by
      rw [hout q (by omega) (fun z => by have := z.1; omega)]; exact g5 q hq⟩, ⟨hsT, by rw [hsT, gZ_sZ]; omega⟩, hfr, hG, hM_sZ g10 (by omega)⟩ T' rfl (Stand.forget (locs := []) X' (fun q hq => by
      have h1 : AC B q.base := hLo q (by simpa using hq)
      have := h1.1
      omega))
  exact ⟨t2, st t2 a1, b1⟩
/-- a call of the reference -/
theorem lw_callM {y : MethodName} {bytes : ByteArray} {maxL idx n : Nat} {rt : Option FieldType} {rm : Room} {Z : HS} {ov : Option Value} {As : List Value} {st0 : List Value} (X : hCX p s m args meth c own cc nL ret D cy (AM B) ad av) (hL : LW D B cy SC SM s.heap H) (hM0 : hMet l y bytes maxL rt rm D (B + 24) cy (AM B) ad av true (hMz (gZ SM)) (.ref (B + 24 + 0) :: As) SM Z ov 0 0)
    (hrm : rm.cells = 0 ∧ rm.slots = 0 ∧ rm.frames + 1 ≤ R.frames ∧ 8 + (maxL + 11) + rm.locals ≤ R.locals)
    (w1 : Cond.methodLink own idx y ∈ wsL_law) (w2 : Cond.instanceMethod y ∈ wsL_law) (w3 : Cond.selects RX9 y y ∈ wsL_law) (w5 : Cond.code y bytes maxL rt ∈ wsL_law) (hd0 : y.cls = RX9 ∧ y.cls ≠ "java/lang/invoke/MethodHandle" ∧ y.cls ≠ "java/lang/invoke/VarHandle" ∧ (parseMethodDescriptor y.desc).map (fun d => d.parameters.length) = some n)
    (hn : As.length = n) (hsize : ls.size = nL) (hst : st0 = As.reverse ++ .ref (B + 24 + 0) :: rest) (hWt : (rest.map fun v => v.category).sum ≤ 8) (hd : decode cc pc = .ok (.invokevirtual idx, 3)) (hf : cells ≤ R.cells ∧ slots ≤ R.slots) {st1 : List Value} (hst1 : ov.toList ++ rest = st1)
    (kk : ∀ H1 : Heap, LW D B cy SC Z s.heap H1 → W p l e R s m args below meth c H1 [] cells slots Q (F0 m (pc + 3) ls st1)) : W p l e R s m args below meth c H [] cells slots Q (F0 m pc ls st0) := by
  subst hst1
  have hX := X
  have hw := hL.M
  obtain ⟨hx, hb, hml, hown, hts, hK, -⟩ := X
  have hκ : gK SM 0 = 10 := hMk hw.2.2.2.2.2.1 0 rfl
  obtain ⟨q0, hq⟩ := hWs_get (B := B + 24) (cy := cy) (hFr_in hw.2.2.2.2.1 hκ (by omega))
  rw [hEn_obj hκ (by omega)] at hq
  obtain ⟨hC0, hd1⟩ := hd0
  have cb : CallB R s args own idx y bytes maxL rt (Cond.code y bytes maxL rt :: wsL_law) rm 0 0 n := callB_of n hts (tw_inT w5) rfl hrm.1 hrm.2.1 (by rw [hC0]; exact hts _ tw_5) (hts _ w1) hd1 hrm.2.2
  have hr := va_runV (e := e) (below := below) (meth := meth) (As := As) (rest := rest) (C := RX9) (locs := []) (cells := cells) (slots := slots) (g := F0 m pc ls st0) ⟨hx, hb, hml, hown, hts⟩ hM0 ⟨cb, hts _ w2, hts _ w3⟩ ⟨h_blind, va_recv hK hw.1 (show vwCl[kcl 10]? = some (RX9, TX9, 60) from rfl) hq, h_pre hX hw⟩ rfl hn hsize hst (lv_room hWt) hd hf
  intro T hT XT
  obtain ⟨v, st₀, t, T', L, h0, X', hLo, e1, e2, ⟨hv, ⟨hP, hD, hz, hfr, hG⟩, hz2, hk⟩, st⟩ := hr T hT XT
  have hv' : v = ov := by cases hv; rfl
  subst hv'
  rw [h0] at hz2 hk
  obtain ⟨g1, g2, g3, g4, ⟨gb, g5⟩, ⟨g6, g7⟩, g8, g9, g10⟩ := hL
  have hzz := hz rfl
  have hout : ∀ q, q < H.size → ¬ AM B q → T'.heap[q]? = H[q]? := fun q h1 h2 => by rw [e1]; exact hk q h1 h2
  have hsT : T'.heap.size = B + 24 + gZ Z := by rw [e1]; exact hzz
  have hG1 : hM Z := hG.1
  have hG2 : gZ Z = gZ SM := hG.2
  obtain ⟨t2, a1, b1⟩ := kk T'.heap ⟨g1.kept (fun k x hx0 => hout x.1 ((g1 k x hx0).lt) (fun q => (g2.2 k x hx0).2 q)), g2, by rw [e1]; exact hP, hD, ⟨gb, fun q hq => by
      rw [hout q (by omega) (fun z => by have := z.1; omega)]; exact g5 q hq⟩, ⟨by omega, by omega⟩, g8, g9, hG1⟩ T' rfl (Stand.forget (locs := []) X' (fun q hq => by
      have h1 : AM B q.base := hLo q (by simpa using hq)
      have := h1.1
      omega))
  exact ⟨t2, st t2 a1, b1⟩
end LAW1
