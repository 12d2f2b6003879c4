/-! the class's walk: days pass -/
theorem nst_out {D : HS} (hd : DOK D) {K : Int32} {q w : Nat} (hq : qP D ≤ q) : ∀ (ks : List Nat) (v : Nat → Nat → Int32), (∀ k ∈ ks, k < qN D) → ks.foldl (nst D K) v q w = v q w := by
  intro ks
  induction ks with
  | nil => intro v _; rfl
  | cons k ks ih =>
    intro v hk
    rw [List.foldl_cons, ih _ (fun j hj => hk j (by simp [hj]))]
    have := (n_of_in (hd.2.2.2.2.2.2.2.2.1 k (hk k (by simp))).1).2
    unfold nst
    split
    · rw [up2_ne (by omega)]
    · rfl
theorem vv_out {D : HS} (hd : DOK D) {K : Int32} {q w : Nat} (hq : qP D ≤ q) : ∀ d, vv D K d q w = v0 q w := by
  intro d
  induction d with
  | zero => exact nst_out hd hq _ _ (fun k hk => (dn_mem hk).1)
  | succ d ih => exact (nst_out hd hq _ _ (fun k hk => (dn_mem hk).1)).trans ih
section WALK3
variable {S D : HS} {LA NL : List Nat} {oA oL oN : Nat → Nat} {sc : Option Nat} {K : Int32} {p : Nat} {A : AA} {R : Nat → Option Nat}
theorem serving_33 (d : DRel S D LA NL oA oL oN) {who : Nat} (lw : who < 8) : ∀ (i q m : Nat), q + i = 8 → i < m → ∃ r, fn_X7_isServing_33 m (nI who) (nI q) (mc S A R sc) = some (r, mc S A R sc) ∧ ((r = 1 ∧ ∃ q', q' < 8 ∧ A 14 q' = 1 ∧ per D q' = who) ∨ (r = 0 ∧ ∀ q', q ≤ q' → q' < 8 → ¬ (A 14 q' = 1 ∧ per D q' = who))) := by
  have hd := d.2.2.1
  intro i
  induction i with
  | zero =>
    intro q m e hm
    obtain ⟨m, rfl⟩ : ∃ k, m = k + 1 := ⟨m - 1, by omega⟩
    have e : q = 8 := by omega
    subst e
    refine ⟨0, ?_, Or.inr ⟨rfl, fun q' h1 h2 => by omega⟩⟩
    conv => lhs; unfold fn_X7_isServing_33
    exact cd_t (Int32.le_refl _)
  | succ i ih =>
    intro q m e hm
    obtain ⟨m, rfl⟩ : ∃ k, m = k + 1 := ⟨m - 1, by omega⟩
    have f1 : ¬ nI 8 ≤ nI q := by rw [n_le (by omega) (by omega)]; omega
    have f2 : vp_in (nI q) 8 := (n_in (by omega)).mpr (by omega)
    have f3 : (nI q).toNatClampNeg = q := n_cl (by omega)
    have f4 : nI q + 1 = nI (q + 1) := by rw [n_lit, n_add]
    have e6 : gI S 6 q = nI (per D q) := (d.2.2.2.2.2.2.2.2.2.2.2 q (by omega)).trans (n_of_in (hd.2.2.2.2.2.2.2.2.2 q (by omega))).1
    have l6 : per D q < 8 := (n_of_in (hd.2.2.2.2.2.2.2.2.2 q (by omega))).2
    have hu : fn_X7_isServing_33 (m + 1) (nI who) (nI q) (mc S A R sc) = cd (A 14 q = 1) (cd (nI (per D q) = nI who) (some (1, mc S A R sc)) (fn_X7_isServing_33 m (nI who) (nI (q + 1)) (mc S A R sc))) (fn_X7_isServing_33 m (nI who) (nI (q + 1)) (mc S A R sc)) := by
      conv => lhs; unfold fn_X7_isServing_33
      unfold fn_X7_isServing_73
      simp only [f1, f2, f3, f4, mc_a14, mc_a6, e6, cd_F, gd_T, bn_s]
    obtain ⟨r, q1, q2⟩ := ih (q + 1) m (by omega) (by omega)
    have hno : ¬ (A 14 q = 1 ∧ per D q = who) → ∃ r, some (r, mc S A R sc) = some (r, mc S A R sc) ∧ fn_X7_isServing_33 m (nI who) (nI (q + 1)) (mc S A R sc) = some (r, mc S A R sc) ∧ ((r = 1 ∧ ∃ q', q' < 8 ∧ A 14 q' = 1 ∧ per D q' = who) ∨ (r = 0 ∧ ∀ q', q ≤ q' → q' < 8 → ¬ (A 14 q' = 1 ∧ per D q' = who))) := by
      intro hn
      refine ⟨r, rfl, q1, ?_⟩
      rcases q2 with h | ⟨h1, h2⟩
      · exact Or.inl h
      · refine Or.inr ⟨h1, fun q' z1 z2 => ?_⟩
        by_cases c : q' = q
        · rw [c]; exact hn
        · exact h2 q' (by omega) z2
    rw [hu]
    by_cases c1 : A 14 q = 1
    · rw [cd_t c1]
      by_cases c2 : per D q = who
      · rw [cd_t (by rw [c2])]
        exact ⟨1, rfl, Or.inl ⟨rfl, q, by omega, c1, c2⟩⟩
      · rw [cd_f (by rw [n_eq (by omega) (by omega)]; exact c2)]
        obtain ⟨r, _, z1, z2⟩ := hno (fun z => c2 z.2)
        exact ⟨r, z1, z2⟩
    · rw [cd_f c1]
      obtain ⟨r, _, z1, z2⟩ := hno (fun z => c1 z.1)
      exact ⟨r, z1, z2⟩
theorem serving_C (d : DRel S D LA NL oA oL oN) (hp : p < qP D) {day : Nat} (h7 : A 11 7 = nI p) (h14 : ∀ q, q < 8 → A 14 q = vv D K day q 6) : fn_X7_isServing (mc S A R sc) = some (bI (svg D K day (per D p)), mc S A R sc) := by
  have hd := d.2.2.1
  have lP : qP D < 9 := (n_of_in hd.2.1).2
  have e6 : gI S 6 p = nI (per D p) := (d.2.2.2.2.2.2.2.2.2.2.2 p (by omega)).trans (n_of_in (hd.2.2.2.2.2.2.2.2.2 p (by omega))).1
  have l6 : per D p < 8 := (n_of_in (hd.2.2.2.2.2.2.2.2.2 p (by omega))).2
  unfold fn_X7_isServing
  rw [mc_a11, h7, cd_f (n_ge0 (by omega)), cd_t (by rw [n_lt (by omega) (by omega)]; omega), gd_t ((n_in (by omega)).mpr (by omega)), n_cl (by omega), mc_a6, e6, bn_s]
  obtain ⟨r, q1, q2⟩ := serving_33 (A := A) (R := R) (sc := sc) d l6 8 0 hFuel rfl (by decide)
  refine q1.trans ?_
  rcases q2 with ⟨rfl, q, z1, z2, z3⟩ | ⟨rfl, z⟩
  · have : svg D K day (per D p) = true := by
      unfold svg
      rw [List.any_eq_true]
      rw [h14 q z1] at z2
      refine ⟨q, List.mem_range.mpr ?_, by simp [z2, z3]⟩
      rcases Nat.lt_or_ge q (qP D) with l | l
      · exact l
      · rw [vv_out hd l] at z2
        exact absurd z2 (by unfold v0; decide)
    rw [this]; rfl
  · have : svg D K day (per D p) = false := by
      unfold svg
      rw [List.any_eq_false]
      intro q hq
      have l := List.mem_range.mp hq
      have := z q (by omega) (by omega)
      rw [h14 q (by omega)] at this
      simp only [Bool.and_eq_true, beq_iff_eq]
      exact fun y => this ⟨y.2, y.1⟩
    rw [this]; rfl
theorem passDays_C (d : DRel S D LA NL oA oL oN) (hp : p < qP D) {day n : Nat} (hn : 1 ≤ n) (ld : day + n < 1201) (hA : QA D day n) (hN : QN D day n) (hS : QS D K p day n) (h : CI D oL K p LA NL day A R sc) : ∃ A', fn_X7_passDays (nI n) (mc S A R sc) = some (mc S A' R sc) ∧ PO D oL K p LA NL (day + n) A' R sc := by
  obtain ⟨h7, h8, h9, h10, h11, h14, h15, h16, h17, hv, hq, hL, h12, hap⟩ := h
  have hd := d.2.2.1
  have hW := wl_WOK hd K day
  have hWC : WC D oL (wl D K day) R := WC_of hd (LC_wins d hL)
  obtain ⟨b1, b2⟩ := sa_b (D := D) (K := K) (who := per D p) day
  obtain ⟨g, lg, eg⟩ := dNo_g hW
  have eg2 : gap D K day = g := by unfold gap; rw [eg, n_cl (by omega)]
  have t1 : nI day + nI n = nI (day + n) := n_add _ _
  have t2 : nI (sa D K (per D p) day).1 + nI n = nI ((sa D K (per D p) day).1 + n) := n_add _ _
  have t3 : nI (sa D K (per D p) day).2 + nI n = nI ((sa D K (per D p) day).2 + n) := n_add _ _
  have hsa := q_sa (K := K) (who := per D p) hd hA hN (n - 1) (by omega)
  rw [show day + (n - 1) + 1 = day + n by omega, show n - 1 + 1 = n by omega, eg2] at hsa
  have hnum : ∀ A, fn_X6_numberOf 4 0 (mc S A R sc) = some (nI g, mc S A R sc) := fun A => by
    have := numberOf_C (A := A) (sc := sc) d hW hWC (by decide : 4 < 6) (by decide) 0
    rw [show 26 * 4 = 104 from rfl, eg] at this
    exact this
  have hfin : ∀ A' : AA, (∀ c, c ≠ 11 → A' c = A c) → (∀ j, j ≠ 9 → j ≠ 14 → j ≠ 15 → A' 11 j = A 11 j) → A' 11 9 = nI (day + n) → A' 11 14 = nI (sa D K (per D p) (day + n)).1 → A' 11 15 = nI (sa D K (per D p) (day + n)).2 → PO D oL K p LA NL (day + n) A' R sc := by
    intro A' k1 k2 k3 k4 k5
    have epr : vpr D K (day + n) = vv D K day := by
      rw [show day + n = (day + (n - 1)) + 1 by omega]
      exact q_vv hN (n - 1) (by omega)
    have efp : fpr D K p (day + n) = flo D K p day := by
      rw [show day + n = (day + (n - 1)) + 1 by omega]
      exact q_flo hd hp hA hN hS (n - 1) (by omega)
    have eA : cLt (qF D) LA (day + 1) = cLt (qF D) LA (day + n) := cLt_same (fun a ha => by
      have := hA a (List.mem_range.mp (d.2.2.2.1.1.mem_iff.mp ha))
      omega)
    have eN : cLt (nFr D) NL (day + 1) = cLt (nFr D) NL (day + n) := cLt_same (fun a ha => by
      have := hN a (List.mem_range.mp (d.2.2.2.1.2.2.2.1.mem_iff.mp ha))
      omega)
    have ewl : wl D K (day + n - 1) = wl D K day := by
      rw [show day + n - 1 = day + (n - 1) by omega]
      exact q_wl hd hA (n - 1) (by omega)
    refine ⟨(k2 7 (by decide) (by decide) (by decide)).trans h7, (k2 8 (by decide) (by decide) (by decide)).trans h8, k3, ?_, ?_, k4, k5, ?_, ?_, ?_, ?_, ?_, Or.inr ⟨(k2 12 (by decide) (by decide) (by decide)).trans h12, by omega, (sa D K (per D p) day).1, ?_⟩⟩
    · rw [k2 10 (by decide) (by decide) (by decide), h10, eA]
    · rw [k2 11 (by decide) (by decide) (by decide), h11, eN]
    · rw [k2 16 (by decide) (by decide) (by decide), h16, efp]
    · rw [k2 17 (by decide) (by decide) (by decide), h17, efp]
    · intro w hw; rw [k1 13 (by decide), epr]; exact hv w hw
    · intro q hq'; rw [k1 14 (by decide), epr]; exact hq q hq'
    · intro k hk; rw [k1 9 (by decide), k1 10 (by decide), ← eA]; exact hL k hk
    · unfold AP; rw [k1 12 (by decide), k1 13 (by decide), ewl]; exact hap
  unfold fn_X7_passDays fn_X7_passDays_64
  rw [bn_s, mc_s11, mc_a11, h9, t1, serving_C (K := K) (day := day) d hp (by rw [up2_nk (by decide)]; exact h7) (by rw [up2_ne (by decide)]; exact hq), bn2_s]
  cases hb : svg D K day (per D p)
  · rw [hb, if_neg (by decide)] at hsa
    rw [show bI false = 0 from rfl, cd_t rfl, bn_s, mc_s11, mc_a11, up2_nk (by decide), h15, t3, hnum, bn2_s, mc_a11, up2_eq]
    by_cases c : g < (sa D K (per D p) day).2 + n
    · rw [cd_f (by rw [n_le (by omega) (by omega)]; omega), bn_s, mc_s11]
      refine ⟨_, rfl, hfin _ (fun c hc => by rw [up2_ne hc, up2_ne hc, up2_ne hc]) (fun j z1 z2 z3 => by rw [up2_nk z2, up2_nk z3, up2_nk z1]) (by rw [up2_nk (by decide), up2_nk (by decide), up2_eq]) (by rw [up2_eq, hsa, if_pos c]; rfl) (by rw [up2_nk (by decide), up2_eq, hsa])⟩
    · rw [cd_t (by rw [n_le (by omega) (by omega)]; omega)]
      refine ⟨_, rfl, hfin _ (fun c hc => by rw [up2_ne hc, up2_ne hc]) (fun j z1 z2 z3 => by rw [up2_nk z3, up2_nk z1]) (by rw [up2_nk (by decide), up2_eq]) (by rw [up2_nk (by decide), up2_nk (by decide), h14, hsa, if_neg c]) (by rw [up2_eq, hsa])⟩
  · rw [hb, if_pos rfl] at hsa
    rw [show bI true = 1 from rfl, cd_f (by decide), bn_s, mc_s11, mc_a11, up2_nk (by decide), h14, t2, bn_s, mc_s11]
    refine ⟨_, rfl, hfin _ (fun c hc => by rw [up2_ne hc, up2_ne hc, up2_ne hc]) (fun j z1 z2 z3 => by rw [up2_nk z3, up2_nk z2, up2_nk z1]) (by rw [up2_nk (by decide), up2_nk (by decide), up2_eq]) (by rw [up2_nk (by decide), up2_eq, hsa]) (by rw [up2_eq, hsa]; rfl)⟩
/-! days that are alike -/
theorem next_A {f : Nat → Nat} {l : List Nat} {day i : Nat} (hs : l.Pairwise (fun a b => f a ≤ f b)) (hi : i = cLt f l (day + 1)) : (l.length ≤ i ∧ ∀ a ∈ l, f a ≤ day) ∨ (i < l.length ∧ day + 1 ≤ f (l.getD i 0) ∧ ∀ a ∈ l, f a ≤ day ∨ f (l.getD i 0) ≤ f a) := by
  have h := srt (f := f) (d := day + 1) l hs
  rw [← hi] at h
  have hm : ∀ a ∈ l, f a ≤ day ∨ a ∈ l.drop i := by
    intro a ha
    rcases Nat.lt_or_ge (f a) (day + 1) with c | c
    · exact Or.inl (by omega)
    · right; rw [h.1]; exact List.mem_filter.mpr ⟨ha, by simpa using c⟩
  cases hr : l.drop i with
  | nil =>
    left
    refine ⟨drop_n hr, fun a ha => ?_⟩
    rcases hm a ha with c | c
    · exact c
    · rw [hr] at c; simp at c
  | cons b rest =>
    right
    obtain ⟨li, eb, _⟩ := drop_c hr
    have hd1 := hs.drop (i := i)
    rw [hr, List.pairwise_cons] at hd1
    refine ⟨li, ?_, fun a ha => ?_⟩
    · rw [eb]
      have : b ∈ l.drop i := by rw [hr]; simp
      rw [h.1] at this
      simpa using (List.mem_filter.mp this).2
    · rw [eb]
      rcases hm a ha with c | c
      · exact Or.inl c
      · rw [hr] at c
        rcases List.mem_cons.mp c with rfl | c
        · exact Or.inr (Nat.le_refl _)
        · exact Or.inr (hd1.1 a c)
theorem alike_C (d : DRel S D LA NL oA oL oN) (hp : p < qP D) {day mo : Nat} (h1 : 1 ≤ mo) (h2 : day + mo < 1201) (h : CI D oL K p LA NL day A R sc) : ∃ n, fn_X7_daysAlike (nI mo) (mc S A R sc) = some (nI n, mc S A R sc) ∧ 1 ≤ n ∧ n ≤ mo ∧ QA D day n ∧ QN D day n ∧ QS D K p day n := by
  obtain ⟨h7, h8, h9, h10, h11, h14, h15, h16, h17, hv, hq, hL, h12, hap⟩ := h
  have hd := d.2.2.1
  have hW := wl_WOK hd K day
  have la : qA D < 13 := (n_of_in hd.1).2
  have ln : qN D < 201 := (n_of_in hd.2.2.1).2
  obtain ⟨k4, s4, l4, k5, s5, l5⟩ := sz_A d
  have oR := d.2.2.2.1
  have sz4 : fl_size 4 (mc S A R sc) = some (nI LA.length, mc S A R sc) := by
    rw [fz (by exact k4), mc_lo (by decide), s4, l4]; exact congrArg (fun x => some (x, mc S A R sc)) (n_of_in hd.1).1
  have sz5 : fl_size 5 (mc S A R sc) = some (nI NL.length, mc S A R sc) := by
    rw [fz (by exact k5), mc_lo (by decide), s5, l5]; exact congrArg (fun x => some (x, mc S A R sc)) (n_of_in hd.2.2.1).1
  have lsa := (sa_b (D := D) (K := K) (who := per D p) day).1
  obtain ⟨t, n1, n2, n3, n4⟩ := nextStep_C (R := R) d hW (by omega : (sa D K (per D p) day).1 < 2000) hap
  have hcg := d_cg hW (V := A 13) (V' := vv D K day p) (fun j hj => hv j (by omega))
  rw [hcg.2.2.2.1] at n4
  have iA := cLt_le (f := qF D) (l := LA) (d := day + 1)
  have iN := cLt_le (f := nFr D) (l := NL) (d := day + 1)
  -- agreements
  have hA : ∃ x, 1 ≤ x ∧ x ≤ mo ∧ QA D day x ∧ fn_X7_daysAlike (nI mo) (mc S A R sc) = fn_X7_daysAlike_43 (nI x) (mc S A R sc) := by
    unfold fn_X7_daysAlike
    rw [sz4, bn2_s, mc_a11, h10]
    rcases next_A (i := cLt (qF D) LA (day + 1)) oR.2.1 rfl with ⟨c1, c2⟩ | ⟨c1, c2, c3⟩
    · refine ⟨mo, h1, Nat.le_refl _, fun a ha => Or.inl (c2 a (oR.1.mem_iff.mpr (List.mem_range.mpr ha))), ?_⟩
      rw [cd_t (by rw [n_le (by omega) (by omega)]; exact c1)]
    · rw [cd_f (by rw [n_le (by omega) (by omega)]; omega), JG_get (mc_DRel d).2.2.2.2.1 (by rw [List.length_map]; exact c1) (by decide), getD_map c1, bn2_s, bn_s]
      have ha : LA.getD (cLt (qF D) LA (day + 1)) 0 < qA D := List.mem_range.mp (oR.1.mem_iff.mp (getD_mem c1))
      generalize LA.getD (cLt (qF D) LA (day + 1)) 0 = a at *
      obtain ⟨a1, a2, a3, a4, a5, _⟩ := d.2.2.2.2.2.2.2.1 a ha
      have l11 : qF D a < 1200 := (n_of_in (hd.2.2.2.1 a ha)).2
      have s1 : gI (mc S A R sc) (oA a) 1 = nI (qF D a) := by rw [mc_hi (by omega), a4]; exact (n_of_in (hd.2.2.2.1 a ha)).1
      refine ⟨min mo (qF D a - day), by omega, by omega, fun b hb => ?_, ?_⟩
      · rcases c3 b (oR.1.mem_iff.mpr (List.mem_range.mpr hb)) with z | z
        · exact Or.inl z
        · exact Or.inr (by omega)
      · rw [mc_K, gd_t a2, gd_t a2, bn_s, s1, mc_a11, h9, n_sub (by omega), j_min (by omega) (by omega)]
  obtain ⟨x, x1, x2, x3, x4⟩ := hA
  have hN : ∃ y, 1 ≤ y ∧ y ≤ x ∧ QN D day y ∧ fn_X7_daysAlike_43 (nI x) (mc S A R sc) = fn_X7_daysAlike_84 (nI y) (mc S A R sc) := by
    unfold fn_X7_daysAlike_43
    rw [sz5, bn2_s, mc_a11, h11]
    rcases next_A (f := nFr D) (i := cLt (nFr D) NL (day + 1)) oR.2.2.2.2.1 rfl with ⟨c1, c2⟩ | ⟨c1, c2, c3⟩
    · refine ⟨x, x1, Nat.le_refl _, fun a ha => Or.inl (c2 a (oR.2.2.2.1.mem_iff.mpr (List.mem_range.mpr ha))), ?_⟩
      rw [cd_t (by rw [n_le (by omega) (by omega)]; exact c1)]
    · rw [cd_f (by rw [n_le (by omega) (by omega)]; omega), JG_get (mc_DRel d).2.2.2.2.2.1 (by rw [List.length_map]; exact c1) (by decide), getD_map c1, bn2_s, bn_s]
      have ha : NL.getD (cLt (nFr D) NL (day + 1)) 0 < qN D := List.mem_range.mp (oR.2.2.2.1.mem_iff.mp (getD_mem c1))
      generalize NL.getD (cLt (nFr D) NL (day + 1)) 0 = a at *
      obtain ⟨b1, b2, b3, b4, b5, b6, b7⟩ := d.2.2.2.2.2.2.2.2.2.1 a ha
      obtain ⟨_, _, n3', _⟩ := hd.2.2.2.2.2.2.2.2.1 a ha
      have l17 : nFr D a < 1200 := (n_of_in n3').2
      have s1 : gI (mc S A R sc) (oN a) 2 = nI (nFr D a) := by rw [mc_hi (by omega), b5]; exact (n_of_in n3').1
      refine ⟨min x (nFr D a - day), by omega, by omega, fun b hb => ?_, ?_⟩
      · rcases c3 b (oR.2.2.2.1.mem_iff.mpr (List.mem_range.mpr hb)) with z | z
        · exact Or.inl z
        · exact Or.inr (by omega)
      · rw [mc_K, gd_t b2, gd_t b2, bn_s, s1, mc_a11, h9, n_sub (by omega), j_min (by omega) (by omega)]
  obtain ⟨y, y1, y2, y3, y4⟩ := hN
  refine ⟨min y t, ?_, by omega, by omega, fun a ha => ?_, fun k hk => ?_, fun i hi => ?_⟩
  · rw [x4, y4]
    unfold fn_X7_daysAlike_84
    rw [mc_a11, h14, n1, bn2_s, j_min (by omega) (by omega), show (1 : Int32) = nI 1 from rfl, j_max (by omega) (by omega), show max 1 (min y t) = min y t by omega]
  · have := x3 a ha; omega
  · have := y3 k hk; omega
  · rcases n4 i (by omega) with z | z
    · exact z
    · omega
theorem payDay_C (d : DRel S D LA NL oA oL oN) {day : Nat} (h : CI D oL K p LA NL day A R sc) : fn_X7_payOfDay (mc S A R sc) = some (payD D K p day, mc S A R sc) := by
  obtain ⟨h7, h8, h9, h10, h11, h14, h15, h16, h17, hv, hq, hL, h12, hap⟩ := h
  have hd := d.2.2.1
  obtain ⟨_, _, x, ex, lx, mx⟩ := vv_K hd (K := K) day p
  have f1 : vp_in 7 9 := (n_in (a := 7) (by decide)).mpr (by decide)
  have f2 : (7 : Int32).toNatClampNeg = 7 := rfl
  have e7 : A 13 7 = nI x := (hv 7 (by decide)).trans ex
  have f3 : ¬ nI x - nI x / 10 * 10 ≤ 0 := by
    rw [show nI x - nI x / 10 * 10 = nI (x % 10) from n_mod (b := 10) (by omega) (by omega), n_lit, n_le (by omega) (by omega)]
    omega
  unfold fn_X7_payOfDay fn_X7_payOfDay_45 payD payI
  rw [ex]
  simp only [f1, f2, gd_T, bn_s, mc_a13, mc_a11, e7, h17, f3, cd_F, i64_ne mx lx, not_false_eq_true]
theorem goTo_C (d : DRel S D LA NL oA oL oN) (hp : p < qP D) {tg : Nat} (lt : tg < 1200) : ∀ (r day x m : Nat) (A : AA) (R : Nat → Option Nat) (sc : Option Nat), tg - day ≤ r → day ≤ tg → x ≤ day → r < m → CI D oL K p LA NL day A R sc → ∃ A' R' sc', fn_X7_goTo_2 m (nI tg) (nI x) (mc S A R sc) = some (mc S A' R' sc') ∧ CI D oL K p LA NL tg A' R' sc' := by
  intro r
  induction r with
  | zero =>
    intro day x m A R sc e h1 h2 hm h
    obtain ⟨m, rfl⟩ : ∃ k, m = k + 1 := ⟨m - 1, by omega⟩
    have e : day = tg := by omega
    subst e
    refine ⟨A, R, sc, ?_, h⟩
    conv => lhs; unfold fn_X7_goTo_2
    rw [cd_f (by rw [n_lit, n_le (by omega) (by omega)]; omega), mc_a11, h.2.2.1, cd_t (Int32.le_refl _)]
    rfl
  | succ r ih =>
    intro day x m A R sc e h1 h2 hm h
    obtain ⟨m, rfl⟩ : ∃ k, m = k + 1 := ⟨m - 1, by omega⟩
    by_cases c : day = tg
    · subst c
      refine ⟨A, R, sc, ?_, h⟩
      conv => lhs; unfold fn_X7_goTo_2
      rw [cd_f (by rw [n_lit, n_le (by omega) (by omega)]; omega), mc_a11, h.2.2.1, cd_t (Int32.le_refl _)]
      rfl
    · obtain ⟨n, a1, a2, a3, a4, a5, a6⟩ := alike_C d hp (by omega : 1 ≤ tg - day) (by omega) h
      obtain ⟨A1, b1, b2⟩ := passDays_C d hp a2 (by omega) a4 a5 a6 h
      obtain ⟨A2, R2, sc2, c1, c2⟩ := openDay_C d hp (by omega) b2
      obtain ⟨A3, R3, sc3, d1, d2⟩ := ih (day + n) (x + 1) m A2 R2 sc2 (by omega) (by omega) (by omega) (by omega) c2
      refine ⟨A3, R3, sc3, ?_, d2⟩
      rw [← d1]
      conv => lhs; unfold fn_X7_goTo_2
      rw [cd_f (by rw [n_lit, n_le (by omega) (by omega)]; omega), mc_a11, h.2.2.1, cd_f (by rw [n_le (by omega) (by omega)]; omega), n_sub (by omega), a1, bn2_s, b1, bn_s, c1, bn_s, bn_s, show nI x + 1 = nI (x + 1) by rw [n_lit, n_add]]
theorem payDays_C (d : DRel S D LA NL oA oL oN) (hp : p < qP D) {en : Nat} (le : en < 1201) : ∀ (r day x m : Nat) (A : AA) (R : Nat → Option Nat) (sc : Option Nat) (sum : Int64), en - day ≤ r → day ≤ en → x ≤ day → r < m → CI D oL K p LA NL day A R sc → ∃ A' R' sc', fn_X7_payOfDays_13 m sum (nI en) (nI x) (mc S A R sc) = some (sum + psum D K p day (en - day), mc S A' R' sc') ∧ CI D oL K p LA NL en A' R' sc' := by
  intro r
  induction r with
  | zero =>
    intro day x m A R sc sum e h1 h2 hm h
    obtain ⟨m, rfl⟩ : ∃ k, m = k + 1 := ⟨m - 1, by omega⟩
    have e : day = en := by omega
    subst e
    refine ⟨A, R, sc, ?_, h⟩
    conv => lhs; unfold fn_X7_payOfDays_13
    unfold fn_X7_payOfDays_70
    rw [mc_a11, h.2.2.1, cd_t (Int32.le_refl _), Nat.sub_self, show psum D K p day 0 = 0 from rfl, Int64.add_zero]
    by_cases q : (1200 : Int32) ≤ nI x
    · exact cd_t q
    · exact cd_f q
  | succ r ih =>
    intro day x m A R sc sum e h1 h2 hm h
    obtain ⟨m, rfl⟩ : ∃ k, m = k + 1 := ⟨m - 1, by omega⟩
    by_cases c : day = en
    · subst c
      refine ⟨A, R, sc, ?_, h⟩
      conv => lhs; unfold fn_X7_payOfDays_13
      unfold fn_X7_payOfDays_70
      rw [mc_a11, h.2.2.1, cd_t (Int32.le_refl _), Nat.sub_self, show psum D K p day 0 = 0 from rfl, Int64.add_zero]
      by_cases q : (1200 : Int32) ≤ nI x
      · exact cd_t q
      · exact cd_f q
    · obtain ⟨n, a1, a2, a3, a4, a5, a6⟩ := alike_C d hp (by omega : 1 ≤ en - day) (by omega) h
      obtain ⟨A1, b1, b2⟩ := passDays_C d hp a2 (by omega) a4 a5 a6 h
      obtain ⟨A2, R2, sc2, c1, c2⟩ := openDay_C d hp (by omega) b2
      obtain ⟨A3, R3, sc3, d1, d2⟩ := ih (day + n) (x + 1) m A2 R2 sc2 (sum + (nI n).toInt64 * payD D K p day) (by omega) (by omega) (by omega) (by omega) c2
      refine ⟨A3, R3, sc3, ?_, d2⟩
      have es : sum + psum D K p day (en - day) = sum + (nI n).toInt64 * payD D K p day + psum D K p (day + n) (en - (day + n)) := by
        rw [show en - day = n + (en - (day + n)) by omega, psum_add, q_psum d.2.2.1 hp a4 a5 a6 (by omega) n (Nat.le_refl _), Int64.add_assoc]
      rw [es, ← d1]
      conv => lhs; unfold fn_X7_payOfDays_13
      rw [cd_f (by rw [n_lit, n_le (by omega) (by omega)]; omega), mc_a11, h.2.2.1, cd_f (by rw [n_le (by omega) (by omega)]; omega), n_sub (by omega), a1, bn2_s, payDay_C d h, bn2_s, bn_s, b1, bn_s, c1, bn_s, bn_s, show nI x + 1 = nI (x + 1) by rw [n_lit, n_add]]
theorem begin_C (d : DRel S D LA NL oA oL oN) (hp : p < qP D) : ∃ A' R' sc', fn_X7_begin (nI p) K (mc S A R sc) = some (mc S A' R' sc') ∧ CI D oL K p LA NL 0 A' R' sc' := by
  have hc := d.1
  unfold fn_X7_begin
  simp only [bn_s, mc_s11]
  generalize hA0 : up2 (up2 (up2 (up2 (up2 (up2 (up2 (up2 (up2 A 11 7 (nI p)) 11 8 K) 11 9 0) 11 10 0) 11 11 0) 11 14 0) 11 15 0) 11 16 0) 11 17 0 = A0
  obtain ⟨A1, R1, q1, q2, q3⟩ := clear_C (sc := sc) (A := A0) (R := R) hc D oL 1200 K
  obtain ⟨A2, r1, r2, r3⟩ := fill_all (S := S) (sc := sc) (v := 0) (A := A1) (R := R1) (c := 13) (by decide) (by decide) (hCk hc 13 (by decide) rfl) (hCn hc 13 (by decide) rfl) (by decide)
  obtain ⟨A3, s1, s2, s3⟩ := fill_all (S := S) (sc := sc) (v := 0) (A := up2 A2 13 7 11) (R := R1) (c := 14) (by decide) (by decide) (hCk hc 14 (by decide) rfl) (hCn hc 14 (by decide) rfl) (by decide)
  have e11 : A3 11 = A0 11 := (s3 11 (by decide)).trans ((up2_ne (by decide)).trans ((r3 11 (by decide)).trans (q3 11 (by decide))))
  have c0 : ∀ (f : Nat → Nat) (l : List Nat), cLt f l 0 = 0 := fun f l => by
    have e : l.filter (fun k => decide (f k < 0)) = [] := List.filter_eq_nil_iff.mpr (fun a _ => by simp)
    unfold cLt; rw [e]; rfl
  have hpo : PO D oL K p LA NL 0 (up2 A3 11 12 1) R1 sc := by
    refine ⟨?_, ?_, ?_, ?_, ?_, ?_, ?_, ?_, ?_, fun w hw => ?_, fun q hq => ?_, ?_, Or.inl up2_eq⟩
    · rw [up2_nk (by decide), e11, ← hA0, up2_nk (by decide), up2_nk (by decide), up2_nk (by decide), up2_nk (by decide), up2_nk (by decide), up2_nk (by decide), up2_nk (by decide), up2_nk (by decide), up2_eq]
    · rw [up2_nk (by decide), e11, ← hA0, up2_nk (by decide), up2_nk (by decide), up2_nk (by decide), up2_nk (by decide), up2_nk (by decide), up2_nk (by decide), up2_nk (by decide), up2_eq]
    · rw [up2_nk (by decide), e11, ← hA0, up2_nk (by decide), up2_nk (by decide), up2_nk (by decide), up2_nk (by decide), up2_nk (by decide), up2_nk (by decide), up2_eq]; rfl
    · rw [up2_nk (by decide), e11, ← hA0, up2_nk (by decide), up2_nk (by decide), up2_nk (by decide), up2_nk (by decide), up2_nk (by decide), up2_eq, c0]; rfl
    · rw [up2_nk (by decide), e11, ← hA0, up2_nk (by decide), up2_nk (by decide), up2_nk (by decide), up2_nk (by decide), up2_eq, c0]; rfl
    · rw [up2_nk (by decide), e11, ← hA0, up2_nk (by decide), up2_nk (by decide), up2_nk (by decide), up2_eq]; rfl
    · rw [up2_nk (by decide), e11, ← hA0, up2_nk (by decide), up2_nk (by decide), up2_eq]; rfl
    · rw [up2_nk (by decide), e11, ← hA0, up2_nk (by decide), up2_eq]; rfl
    · rw [up2_nk (by decide), e11, ← hA0, up2_eq]; rfl
    · rw [up2_ne (by decide), s3 13 (by decide)]
      show _ = v0 p w
      unfold v0
      by_cases c : w = 7
      · rw [if_pos c, c, up2_eq]
      · rw [if_neg c, up2_nk c]; exact r2 w hw
    · rw [up2_ne (by decide)]
      exact s2 q hq
    · rw [c0]
      intro k hk
      rw [up2_ne (by decide), up2_ne (by decide), s3 9 (by decide), s3 10 (by decide), up2_ne (by decide), up2_ne (by decide), r3 9 (by decide), r3 10 (by decide)]
      exact q2 k hk
  obtain ⟨A4, R4, sc4, t1, t2⟩ := openDay_C d hp (by decide) hpo
  refine ⟨A4, R4, sc4, ?_, t2⟩
  have f1 : vp_in 7 9 := (n_in (a := 7) (by decide)).mpr (by decide)
  have f2 : (7 : Int32).toNatClampNeg = 7 := rfl
  rw [q1, bn_s, r1, bn_s, gd_t f1, f2, mc_s13, s1, bn_s, mc_s11, t1, bn_s]
end WALK3
