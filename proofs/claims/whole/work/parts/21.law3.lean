/-! what the law's start gives -/
theorem hOld.narrow {A A2 : Nat → Prop} {ad av : Nat → Nat} {U : State} {H : Heap} (h : hOld A ad av U H) (hA : ∀ q, A2 q → A q) : hOld A2 ad av U H := ⟨h.1.narrow hA, h.2.1, h.2.2.1.narrow hA, h.2.2.2.1.narrow hA, h.2.2.2.2.1.narrow hA, h.2.2.2.2.2.1.narrow hA, h.2.2.2.2.2.2.1.narrow hA, h.2.2.2.2.2.2.2.1, h.2.2.2.2.2.2.2.2⟩
theorem hCX.narrow {p : Program} {s : State} {m : MethodId} {args : Array Value} {meth : Method} {c : Code} {own : String} {cc : ByteArray} {nL : Nat} {ret : Option FieldType} {D : va_G} {cy : Nat → ClassId} {A A2 : Nat → Prop} {ad av : Nat → Nat} (X : hCX p s m args meth c own cc nL ret D cy A ad av) (hA : ∀ q, A2 q → A q) : hCX p s m args meth c own cc nL ret D cy A2 ad av := ⟨X.1, X.2.1, X.2.2.1, X.2.2.2.1, X.2.2.2.2.1, X.2.2.2.2.2.1, X.2.2.2.2.2.2.1.narrow hA, X.2.2.2.2.2.2.2⟩
def hTm (i : Nat) : Term := .string (hSown.getD i "") (hSidx.getD i 0)
abbrev hNar : Cond := Jvm.Cond.and given_1 narrow_1
theorem m_ex : ∀ i, i < 9 → Cond.exactly (hTm i) "java/lang/String" ∈ flatC hNar := by decide +kernel
theorem m_co : ∀ i, i < 9 → Cond.eq (.field (hTm i) "java/lang/String" "coder" "B") (.int 0) ∈ flatC hNar := by decide +kernel
theorem m_ar : ∀ i, i < 9 → Cond.arrayOf (.field (hTm i) "java/lang/String" "value" "[B") .byte ∈ flatC hNar := by decide +kernel
theorem m_le : ∀ i, i < 9 → Cond.eq (.length (.field (hTm i) "java/lang/String" "value" "[B")) (.int (Int32.ofNat (hSlen.getD i 0))) ∈ flatC hNar := by decide +kernel
theorem m_el : ∀ i, i < 9 → ∀ j, j < hSlen.getD i 0 → Cond.eq (.elem (.field (hTm i) "java/lang/String" "value" "[B") (.int (Int32.ofNat j))) (.int ((hSbyt.getD i []).getD j 0)) ∈ flatC hNar := by decide +kernel
theorem m_ne : ∀ i, i < 9 → ∀ j, j < 9 → i ≠ j → Cond.not (Cond.eq (hTm i) (hTm j)) ∈ flatC hNar ∨ Cond.not (Cond.eq (hTm j) (hTm i)) ∈ flatC hNar := by decide +kernel
theorem m_sr : ∀ i, i < 9 → Cond.stringRef (hSown.getD i "") (hSidx.getD i 0) (hStx.getD i "") ∈ tables_1 := by decide +kernel
theorem m_cs : Cond.eq (.static "java/lang/String" "COMPACT_STRINGS" "Z") (.int 1) ∈ flatC hNar := by decide +kernel
theorem m_sf : Cond.isRef (.static "jdk/internal/util/Preconditions" "SIOOBE_FORMATTER" "Ljava/util/function/BiFunction;") ∈ flatC hNar := by decide +kernel
theorem m_dx : Cond.exactly (.static "java/util/ArrayList" "DEFAULTCAPACITY_EMPTY_ELEMENTDATA" "[Ljava/lang/Object;") "[Ljava/lang/Object;" ∈ flatC hNar := by decide +kernel
theorem m_da : Cond.arrayOf (.static "java/util/ArrayList" "DEFAULTCAPACITY_EMPTY_ELEMENTDATA" "[Ljava/lang/Object;") (.object "java/lang/Object") ∈ flatC hNar := by decide +kernel
theorem m_dl : Cond.eq (.length (.static "java/util/ArrayList" "DEFAULTCAPACITY_EMPTY_ELEMENTDATA" "[Ljava/lang/Object;")) (.int (Int32.ofNat 0)) ∈ flatC hNar := by decide +kernel
theorem m_mi : Cond.isRef (.mirror "[Ljava/lang/Object;") ∈ flatC hNar := by decide +kernel
theorem m_t1 : Cond.laysStatic "java/lang/String" "COMPACT_STRINGS" "Z" ∈ tables_1 ∧ Cond.initialized "java/lang/String" ∈ tables_1 ∧ Cond.laysStatic "jdk/internal/util/Preconditions" "SIOOBE_FORMATTER" "Ljava/util/function/BiFunction;" ∈ tables_1 ∧ Cond.initialized "jdk/internal/util/Preconditions" ∈ tables_1 ∧ Cond.laysStatic "java/util/ArrayList" "DEFAULTCAPACITY_EMPTY_ELEMENTDATA" "[Ljava/lang/Object;" ∈ tables_1 ∧ Cond.initialized "java/util/ArrayList" ∈ tables_1 := by decide +kernel
theorem m_t2 : Cond.arrayOver (.object "java/lang/Object") ∈ tables_1 ∧ Cond.arrayOver (.object "PayScales$Line") ∈ tables_1 ∧ Cond.methodLinkNest "PayScales" 38 ⟨"PayScales$Rules", "<init>", "()V"⟩ "PayScales" ∈ tables_1 ∧ Cond.methodLinkNest "PayScales$Walk" 11 ⟨"PayScales$Appraisal", "<init>", "()V"⟩ "PayScales" ∈ tables_1 ∧ Cond.castable "PayScales$Line" "java/lang/Object" ∈ tables_1 ∧ Cond.castable "PayScales$Agreement" "java/lang/Object" ∈ tables_1 ∧ Cond.castable "PayScales$Note" "java/lang/Object" ∈ tables_1 ∧ Cond.declares ⟨"java/lang/Object", "getClass", "()Ljava/lang/Class;"⟩ ∈ tables_1 := by decide +kernel
theorem prim_arr {s : State} {args : Array Value} {ty : FieldType} (hp : ∀ C, ty ≠ .object C) (h : (Cond.arrayClass ty).before args s = true) : ∃ cA, ArrOfT s cA ty ∧ va_RA s cA ty := by
  obtain ⟨c, k, comp, h1, h2, h3⟩ := Cond.arrayClass_spec h
  refine ⟨c, fun n z => ⟨(fun k h => by cases h), k, h2, comp, h3⟩, ?_⟩
  cases ty with
  | object C => exact absurd rfl (hp C)
  | _ => exact h1
theorem ref_arr {s : State} {args : Array Value} {C : String} (h : (Cond.arrayOver (.object C)).before args s = true) : ∃ cA, ArrOfT s cA (.object C) ∧ va_RA s cA (.object C) := by
  obtain ⟨comp, c, k, h1, h2, h3, h4, h5⟩ := Cond.arrayOver_spec h
  exact ⟨c, fun n z => ⟨(fun k h => by cases h), k, h3, comp, h4⟩, k, comp, h3, h4, h1, h5⟩
set_option maxHeartbeats 4000000 in
theorem old_setup {s : State} {args : Array Value} (hg : hNar.before args s = true) (ht : ∀ w ∈ tables_1, w.before args s = true) : ∃ ad av : Nat → Nat, hOld (fun q => s.heap.size ≤ q) ad av s s.heap := by
  have hs := flat_of_before _ hg
  have hA : ∀ a : Nat, a < s.heap.size → ¬ (fun q : Nat => s.heap.size ≤ q) a := fun a h => Nat.not_le.mpr h
  obtain ⟨adK, adV, hvs, hev⟩ := vk_Sof (A := fun q => s.heap.size ≤ q) (tm := hTm) hSlen_lt (fun i hi => hs _ (m_ex i hi)) (fun i hi => hs _ (m_co i hi)) (fun i hi => hs _ (m_ar i hi)) (fun i hi => hs _ (m_le i hi)) (fun i hi j hj => hs _ (m_el i hi j hj)) (fun i j hi hj hij => (m_ne i hi j hj hij).elim (fun h => Or.inl (hs _ h)) (fun h => Or.inr (hs _ h))) hA
  obtain ⟨a9, c9, cA9, kA9, q1, q2, q3, q4, q5, q6, -⟩ := Cond.exactly_spec (args := args) (first := s) (o := none) (s := s) (idx := []) (t := .static "java/util/ArrayList" "DEFAULTCAPACITY_EMPTY_ELEMENTDATA" "[Ljava/lang/Object;") (cls := "[Ljava/lang/Object;") (hs _ m_dx)
  obtain ⟨t9, ht9, hT9⟩ := va_Tof (f := fun _ => .null) (A := fun q => s.heap.size ≤ q) (N := 0) (by decide) (hs _ m_da) (va_eqt (hs _ m_dl)) (fun j hj => absurd hj (Nat.not_lt_zero j)) hA
  have e9 : t9 = a9 := by
    have := ht9.symm.trans q1
    simpa using this
  subst e9
  obtain ⟨mi, hmi⟩ := va_Mi.of (hs _ m_mi)
  obtain ⟨ad, had, had9, had10⟩ : ∃ ad : Nat → Nat, (∀ i, i < 9 → ad i = adK i) ∧ ad 9 = t9 ∧ ad 10 = mi := ⟨fun i => if i < 9 then adK i else if i = 9 then t9 else mi, fun i hi => if_pos hi, rfl, rfl⟩
  refine ⟨ad, adV, ⟨fun i hi => by rw [had i hi]; exact hvs.1 i hi, fun i j hi hj e => hvs.2 i j hi hj (by rw [had i hi, had j hj] at e; exact e)⟩, fun i hi => ?_, ?_, ?_, ?_, ?_, ?_, ?_, ?_⟩
  · rw [had i hi]
    exact vk_R.of (ht _ (m_sr i hi)) (hev i hi)
  · exact va_Zof (ht _ m_t1.1) (ht _ m_t1.2.1) (va_eqi (hs _ m_cs)) hA
  · exact va_Zqof (ht _ m_t1.2.2.1) (ht _ m_t1.2.2.2.1) (hs _ m_sf) hA
  · rw [had9]
    exact va_Zref (ht _ m_t1.2.2.2.2.1) (ht _ m_t1.2.2.2.2.2) ht9 hA
  · rw [had9]; exact hT9
  · rw [had9]
    exact ⟨cA9, q3, q5, by rw [q6]; exact q2, hA _ (Array.getElem?_eq_some_iff.mp q3).1⟩
  · rw [had10]; exact hmi
  · exact ⟨va_AO.of (ht _ m_t2.1), va_AO.of (ht _ m_t2.2.1), va_Nw.of rfl (ht _ m_t2.2.2.1), va_Nw.of rfl (ht _ m_t2.2.2.2.1), va_Nw.of rfl (ht _ m_t2.2.2.2.2.1), va_Nw.of rfl (ht _ m_t2.2.2.2.2.2.1), va_Nw.of rfl (ht _ m_t2.2.2.2.2.2.2.1), va_Dc.of (ht _ m_t2.2.2.2.2.2.2.2)⟩
set_option maxHeartbeats 4000000 in
theorem law_setup {p : Program} {s : State} {m : MethodId} {meth : Method} {c : Code} {b L : Nat} {xs : Nat → Int32} (hws : ∀ w ∈ wsL_law, w ∈ lw_tbl) (C0 : lw_At p s m meth c b L xs) : ∃ (D : va_G) (cy : Nat → ClassId) (ad av : Nat → Nat), cy 99 = ad 9 ∧ hCX p s m #[Value.ref b] meth c RL cL_law 4 (some .boolean) D cy (fun q => s.heap.size ≤ q) ad av := by
  obtain ⟨hx, hb, hr, hml, hown, hts0, hX, hbl, hlocks, hgv⟩ := C0
  have ht : ∀ w ∈ tables_1, w.before #[Value.ref b] s = true := fun w h => hts0 w (List.mem_append_right _ h)
  have hts : ∀ w ∈ wsL_law, w.before #[Value.ref b] s = true := fun w h => hts0 w (hws w h)
  obtain ⟨ad, av, hO⟩ := old_setup hgv ht
  obtain ⟨c0, i0, k0⟩ := u_known (C := RJx4a65c) (T := TJx4a65c) (N := 3) (n := 3) hts inlJx4a65c (hts _ tw_19)
  obtain ⟨c1, i1, k1⟩ := u_known (C := RX0) (T := TX0) (N := 4) (n := 4) hts inlX0 (hts _ tw_166)
  obtain ⟨c2, i2, k2⟩ := u_known (C := RX1) (T := TX1) (N := 7) (n := 7) hts inlX1 (hts _ tw_78)
  obtain ⟨c3, i3, k3⟩ := u_known (C := RX2) (T := TX2) (N := 10) (n := 10) hts inlX2 (hts _ tw_280)
  obtain ⟨c4, i4, k4⟩ := u_known (C := RX3) (T := TX3) (N := 5) (n := 5) hts inlX3 (hts _ tw_544)
  obtain ⟨c5, i5, k5⟩ := u_known (C := RX4) (T := TX4) (N := 8) (n := 8) hts inlX4 (hts _ tw_15)
  obtain ⟨c6, i6, k6⟩ := u_known (C := RX5) (T := TX5) (N := 3) (n := 3) hts inlX5 (hts _ tw_36)
  obtain ⟨c7, i7, k7⟩ := u_known (C := RX6) (T := TX6) (N := 3) (n := 3) hts inlX6 (hts _ tw_26)
  obtain ⟨c8, i8, k8⟩ := u_known (C := RX7) (T := TX7) (N := 18) (n := 18) hts inlX7 (hts _ tw_30)
  obtain ⟨c9, i9, k9⟩ := u_known (C := RX8) (T := TX8) (N := 18) (n := 18) hts inlX8 (hts _ tw_1)
  obtain ⟨c10, i10, k10⟩ := u_known (C := RX9) (T := TX9) (N := 60) (n := 60) hts inlX9 (hts _ tw_4)
  obtain ⟨aB, bB1, bB2⟩ := prim_arr (ty := .byte) (fun _ h => by cases h) (hts _ tw_12)
  obtain ⟨aI, bI1, bI2⟩ := prim_arr (ty := .int) (fun _ h => by cases h) (hts _ tw_23)
  obtain ⟨aJ, bJ1, bJ2⟩ := prim_arr (ty := .long) (fun _ h => by cases h) (hts _ tw_33)
  obtain ⟨aZ, bZ1, bZ2⟩ := prim_arr (ty := .boolean) (fun _ h => by cases h) (hts _ tw_47)
  obtain ⟨aL, bL1, bL2⟩ := ref_arr (ht _ m_t2.2.1)
  obtain ⟨aO, bO1, bO2⟩ := ref_arr (ht _ m_t2.1)
  refine ⟨(fun k => [c0, c1, c2, c3, c4, c5, c6, c7, c8, c9, c10].getD k 0, fun k => [i0, i1, i2, i3, i4, i5, i6, i7, i8, i9, i10].getD k (fun _ => 0)), fun κ => if κ = 20 then aB else if κ = 21 then aI else if κ = 22 then aJ else if κ = 23 then aZ else if κ = 24 then aL else if κ = 25 then aO else ad 9, ad, av, rfl, hx, hb, hml, hown, hts, ⟨fun k q hq => ?_, fun k q hq => ?_⟩, hO, hr, hlocks⟩
  · match k, hq with
    | 0, hq => cases hq; exact k0
    | 1, hq => cases hq; exact k1
    | 2, hq => cases hq; exact k2
    | 3, hq => cases hq; exact k3
    | 4, hq => cases hq; exact k4
    | 5, hq => cases hq; exact k5
    | 6, hq => cases hq; exact k6
    | 7, hq => cases hq; exact k7
    | 8, hq => cases hq; exact k8
    | 9, hq => cases hq; exact k9
    | 10, hq => cases hq; exact k10
    | k + 11, hq => simp [vwCl] at hq
  · match k, hq with
    | 0, hq => cases hq; exact ⟨bB1, bB2⟩
    | 1, hq => cases hq; exact ⟨bI1, bI2⟩
    | 2, hq => cases hq; exact ⟨bJ1, bJ2⟩
    | 3, hq => cases hq; exact ⟨bZ1, bZ2⟩
    | 4, hq => cases hq; exact ⟨bL1, bL2⟩
    | 5, hq => cases hq; exact ⟨bO1, bO2⟩
    | k + 6, hq => simp [hTy] at hq
