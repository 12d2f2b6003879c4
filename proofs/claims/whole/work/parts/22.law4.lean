/-! the law from its entry: both constructors, then the loop -/
def hS0 : HS := (fun _ _ => 0, fun _ _ => none, fun _ _ => 0, fun _ => 99, fun _ => 0, 0)
theorem hFr0 : hFr hS0 := fun _ _ => rfl
theorem hWs0 (B : Nat) (cy : Nat → ClassId) : hWs B cy hS0 = [] := rfl
section LAW4
variable {p : Program} {l : Launch} {e : Env} {R : Room} {s : State} {m : MethodId} {args : Array Value} {below : List Frame} {meth : Method} {c : Code} {H : Heap} {locs : List Loc} {cells slots : Nat} {Q : State → Prop}
variable {cc : ByteArray} {nL : Nat} {ret : Option FieldType} {own : String} {pc : Nat} {ls : Array Slot} {rest : List Value} {D : va_G} {cy : Nat → ClassId} {ad av : Nat → Nat} {B : Nat}
/-- the reference's constructor, beside the class's cells -/
theorem lw_ctorM {SC SM Z : HS} {idx mc ms : Nat} {rm : Room} (X : hCX p s m args meth c own cc nL ret D cy (AM B) ad av) (hw : hWd D (B + 24) cy (AM B) true hTr SM s.heap H locs) (hPC : va_P D vwCl (hWs B cy SC) H) (hDC : va_D (AC B) (hWs B cy SC)) (hM0 : hMet l yX9_init cX9_init 1 none rm D (B + 24) cy (AM B) ad av true hTr (.ref (B + 24 + 0) :: []) SM Z none mc ms)
    (hrm : rm.cells = mc ∧ rm.slots = ms ∧ rm.frames + 1 ≤ R.frames ∧ 8 + (1 + 11) + rm.locals ≤ R.locals) (w1 : Cond.methodLink own idx yX9_init ∈ wsL_law) (hsize : ls.size = nL) (hWt : (rest.map fun v => v.category).sum ≤ 8) (hd : decode cc pc = .ok (.invokespecial idx, 3)) (hf : cells + mc ≤ R.cells ∧ slots + ms ≤ R.slots)
    (kk : ∀ (H1 : Heap) (locs1 : List Loc), hWd D (B + 24) cy (AM B) true hTr Z s.heap H1 locs1 → va_P D vwCl (hWs B cy SC) H1 → W p l e R s m args below meth c H1 locs1 (cells + mc) (slots + ms) Q (F0 m (pc + 3) ls rest)) : W p l e R s m args below meth c H locs cells slots Q (F0 m pc ls (.ref (B + 24 + 0) :: rest)) := by
  have hX := X
  obtain ⟨hx, hb, hml, hown, hts, hK, -⟩ := X
  have cb : CallB R s args own idx yX9_init cX9_init 1 none (Cond.code yX9_init cX9_init 1 none :: wsL_law) rm mc ms 0 := callB_of 0 hts (tw_inT tw_102) rfl hrm.1 hrm.2.1 (hts _ tw_5) (hts _ w1) hd_X9_init hrm.2.2
  have hr := va_runI (e := e) (below := below) (meth := meth) (As := []) (rest := rest) (locs := locs) (cells := cells) (slots := slots) (g := F0 m pc ls (.ref (B + 24 + 0) :: rest)) ⟨hx, hb, hml, hown, hts⟩ hM0 ⟨cb, rfl, hts _ tw_101⟩ ⟨h_blind, h_pre hX hw⟩ rfl rfl hsize rfl (lv_room hWt) hd hf
  intro T hT XT
  obtain ⟨v, st₀, t, T', L, h0, X', hLo, e1, e2, ⟨hv, ⟨hP, hD, hz, hfr, hG⟩, hz2, hk⟩, st⟩ := hr T hT XT
  have hv' : v = none := by cases hv; rfl
  subst hv'
  rw [h0] at hz2 hk
  have hS := hw.2.2.1
  obtain ⟨t2, a1, b1⟩ := kk T'.heap (locs ++ L) ⟨by rw [e1]; exact hP, hD, ⟨Nat.le_trans hS.1 (by rw [e1]; exact hz2), fun q h1 h2 => by rw [e1, hk q (Nat.lt_of_lt_of_le h1 hS.1) h2]; exact hS.2.1 q h1 h2, fun q hq => by
      rcases List.mem_append.mp hq with h | h
      · exact hS.2.2 q h
      · exact hLo q h⟩, fun h => by rw [e1]; exact hz h, hfr, hG⟩ (hPC.kept (fun k x hx0 => by rw [e1]; exact hk x.1 ((hPC k x hx0).lt) (fun q => (hDC.2 k x hx0).2 q))) T' rfl X'
  exact ⟨t2, st t2 a1, b1⟩
end LAW4
set_option maxHeartbeats 4000000 in
/-- what is still wanted for the claim: a relation that both sides keep, and what the constructors make -/
theorem law_from {p : Program} {e : Env} {s : State} {m : MethodId} {below : List Frame} {meth : Method} {c : Code} (l : Launch) {b L : Nat} {xs : Nat → Int32} (hws : ∀ w ∈ wsL_law, w ∈ lw_tbl) (hL : L ≤ 3072) (C0 : lw_At p s m meth c b L xs) {RR : Nat → HS → HS → Prop} (hRR : LAll RR) {SC SM : HS} (hI8 : fn_X8_init 0 (aN hS0 9 0) = some SC) (hI9 : fn_X9_init 0 (aN hS0 10 0) = some SM) (hZC : gZ SC = 24) (hC1 : hC (sZ SC 65)) (hM1 : hM SM) (hZM : gZ SM = 41) (hR0 : RR 0 (sZ SC 65) SM) : W p l e room_1 s m #[Value.ref b] below meth c s.heap [] 0 0 (lw_Z below #[Value.ref b] s) (entryFrame m ([Value.ref b] : List Value).toArray 4) := by
  obtain ⟨D, cy, ad, av, h99, X⟩ := law_setup hws C0
  obtain ⟨hx, hb, hr, hml, hown, hts0, hX, hbl, hlocks, hgv⟩ := C0
  obtain ⟨B, hB⟩ : ∃ B, B = s.heap.size := ⟨_, rfl⟩
  have Xc : hCX p s m #[Value.ref b] meth c RL cL_law 4 (some .boolean) D cy (AC B) ad av := X.narrow (fun q h => by have := h.1; omega)
  have Xm : hCX p s m #[Value.ref b] meth c RL cL_law 4 (some .boolean) D cy (AM B) ad av := X.narrow (fun q h => by have := h.1; omega)
  have hA24 : ∀ c, c < 24 → AC B (B + c) := fun c hc => ⟨by omega, by omega⟩
  have hA41 : ∀ c, c < 41 → AM B (B + 24 + c) := fun c hc => ⟨by omega, by omega⟩
  have hl := lv_entry ([.ref b]) (n := 4) (Nat.le_of_ble_eq_true rfl)
  rw [lg_entry_eq]
  generalize (lg_sl ([.ref b]) ++ List.replicate (4 - (lg_sl ([.ref b])).length) Slot.unset).toArray = ls at hl ⊢
  have hl : lv_has ls 4 [(0, .ref b)] := hl
  have hw0 : hWd D B cy (AC B) true hTr hS0 s.heap s.heap [] := ⟨fun k q h => by simp [hWs0] at h, ⟨fun i j p q h => by simp [hWs0] at h, fun k q h => by simp [hWs0] at h⟩, va_S.rf, fun _ => hB.symm, hFr0, trivial⟩
  refine r_new (κ := 9) Xc hw0 rfl inlX8 tyX8 tyX8_ok (by decide) rfl hdef_9 tw_0 tw_1 tw_2 (hA24 0 (by decide)) trivial (by decide) (by decide) dL_law_0 (fun H hw => ?_)
  refine lv_dup Xc.1 Xc.2.1 dL_law_3 rfl ?_
  refine r_callI (As := []) (rest := [.ref (B + 0)]) (st1 := [.ref (B + 0)]) Xc hw (c_X8_init l D B cy (AC B) ad av hA24 h99 0 hw.2.2.2.2.1 trivial hI8) ⟨rfl, rfl, Nat.le_of_ble_eq_true rfl, Nat.le_of_ble_eq_true rfl⟩ tw_6 tw_7 tw_2 tw_8 rfl hd_X8_init rfl hl.1 rfl (Nat.le_of_ble_eq_true rfl) dL_law_4 ⟨Nat.le_of_ble_eq_true rfl, Nat.le_of_ble_eq_true rfl⟩ rfl (fun H locs hw => ?_)
  refine lv_astore_n (lv' := [(1, .ref (B + 0)), (0, .ref b)]) Xc.1 Xc.2.1 dL_law_7 rfl hl (by decide) rfl (fun ls hl => ?_)
  refine va_forget (fun q hq => by have := (hw.2.2.1.2.2 q hq).1; omega) ?_
  have hszC : H.size = B + 24 := by rw [hw.2.2.2.1 rfl, hZC]
  have hold : ∀ q, q < s.heap.size → H[q]? = s.heap[q]? := fun q hq => hw.2.2.1.2.1 q hq (fun z => by have := z.1; omega)
  have hPC : va_P D vwCl (hWs B cy SC) H := hw.1
  have hDC : va_D (AC B) (hWs B cy SC) := hw.2.1
  have hfrC : hFr SC := hw.2.2.2.2.1
  have hw1 : hWd D (B + 24) cy (AM B) true hTr hS0 H H [] := ⟨fun k q h => by simp [hWs0] at h, ⟨fun i j p q h => by simp [hWs0] at h, fun k q h => by simp [hWs0] at h⟩, va_S.rf, fun _ => hszC, hFr0, trivial⟩
  refine r_new (κ := 10) (B := B + 24) Xm hw1 rfl inlX9 tyX9 tyX9_ok (by decide) rfl hdef_10 tw_3 tw_4 tw_5 (hA41 0 (by decide)) trivial (by decide) (by decide) dL_law_8 (fun H2 hw2 => ?_)
  have hPC2 : va_P D vwCl (hWs B cy SC) H2 := hPC.kept (fun k x hx0 => hw2.2.2.1.2.1 x.1 ((hPC k x hx0).lt) (fun q => (hDC.2 k x hx0).2 q))
  have hold2 : ∀ q, q < s.heap.size → H2[q]? = s.heap[q]? := fun q hq => (hw2.2.2.1.2.1 q (by omega) (fun z => by have := z.1; omega)).trans (hold q hq)
  have hw3 : hWd D (B + 24) cy (AM B) true hTr (aN hS0 10 0) s.heap H2 [] := ⟨hw2.1, hw2.2.1, ⟨by have := hw2.2.2.1.1; omega, fun q hq _ => hold2 q hq, fun _ h => by cases h⟩, hw2.2.2.2⟩
  refine lv_dup Xm.1 Xm.2.1 dL_law_11 rfl ?_
  refine lw_ctorM (rest := [.ref (B + 24 + 0)]) Xm hw3 hPC2 hDC (c_X9_init l D (B + 24) cy (AM B) ad av hA41 h99 0 hw3.2.2.2.2.1 trivial hI9) ⟨rfl, rfl, Nat.le_of_ble_eq_true rfl, Nat.le_of_ble_eq_true rfl⟩ tw_100 hl.1 (Nat.le_of_ble_eq_true rfl) dL_law_12 ⟨Nat.le_of_ble_eq_true rfl, Nat.le_of_ble_eq_true rfl⟩ (fun H3 locs3 hw4 hPC3 => ?_)
  refine va_forget (fun q hq => by have := (hw4.2.2.1.2.2 q hq).1; omega) ?_
  refine lv_astore_n (lv' := [(2, .ref (B + 24 + 0)), (1, .ref (B + 0)), (0, .ref b)]) Xc.1 Xc.2.1 dL_law_15 rfl hl (by decide) rfl (fun ls hl => ?_)
  refine lv_iconst (v := 0) Xc.1 Xc.2.1 dL_law_16 (by decide) ?_
  refine lv_istore_n (lv' := [(3, .int 0), (2, .ref (B + 24 + 0)), (1, .ref (B + 0)), (0, .ref b)]) Xc.1 Xc.2.1 dL_law_17 rfl hl (by decide) rfl (fun ls hl => ?_)
  have hszM : H3.size = B + 24 + 41 := by rw [hw4.2.2.2.1 rfl, hZM]
  have hKC : ∀ c0, 24 ≤ c0 → gK SC c0 = 99 := fun c0 h => hfrC c0 (by omega)
  have eC : hWs B cy (sZ SC 65) = hWs B cy SC := hWs_sZ hKC (by omega) (by omega)
  have hLW : LW D B cy (sZ SC 65) SM s.heap H3 := ⟨by rw [eC]; exact hPC3, by rw [eC]; exact hDC, hw4.1, hw4.2.1, ⟨hB, fun q hq => hw4.2.2.1.2.1 q hq (fun z => by have := z.1; omega)⟩, ⟨by rw [gZ_sZ]; omega, by omega⟩, fun c0 h => hKC c0 (by rw [gZ_sZ] at h; omega), hC1, hM1⟩
  refine W.widen (k := 100 + 140 * 0) (n := 40000 + 4300 * 0) (by decide) (by decide) ?_
  exact law_loop hRR hL Xc Xm h99 hX hbl (L / 6 + 2) 0 (sZ SC 65) SM H3 ls 0 (by omega) (by omega) rfl hR0 hLW (lv_sub hl [3, 2, 1, 0] rfl)
