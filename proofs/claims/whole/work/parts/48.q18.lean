/-! the class's walk: a day is opened -/
def fC (t : Int32 × Int32 × Int32) : Int32 := if t.1 = 0 then 0 else t.2.1
def PO (D : HS) (oL : Nat → Nat) (K : Int32) (p : Nat) (LA NL : List Nat) (d : Nat) (A : AA) (R : Nat → Option Nat) (sc : Option Nat) : Prop :=
  A 11 7 = nI p ∧ A 11 8 = K ∧ A 11 9 = nI d ∧ A 11 10 = nI (cLt (qF D) LA d) ∧ A 11 11 = nI (cLt (nFr D) NL d) ∧ A 11 14 = nI (sa D K (per D p) d).1 ∧ A 11 15 = nI (sa D K (per D p) d).2 ∧ A 11 16 = fC (fpr D K p d) ∧ A 11 17 = (fpr D K p d).2.2 ∧
  (∀ w, w < 9 → A 13 w = vpr D K d p w) ∧ (∀ q, q < 8 → A 14 q = vpr D K d q 6) ∧ LC D oL 1200 K ((LA.take (cLt (qF D) LA d)).flatMap (lns D)) A R ∧ (A 11 12 = 1 ∨ (A 11 12 = 0 ∧ 0 < d ∧ ∃ s0, AP D oL (wl D K (d - 1)) (A 13) s0 A sc))
def CI (D : HS) (oL : Nat → Nat) (K : Int32) (p : Nat) (LA NL : List Nat) (d : Nat) (A : AA) (R : Nat → Option Nat) (sc : Option Nat) : Prop :=
  A 11 7 = nI p ∧ A 11 8 = K ∧ A 11 9 = nI d ∧ A 11 10 = nI (cLt (qF D) LA (d + 1)) ∧ A 11 11 = nI (cLt (nFr D) NL (d + 1)) ∧ A 11 14 = nI (sa D K (per D p) d).1 ∧ A 11 15 = nI (sa D K (per D p) d).2 ∧ A 11 16 = fC (flo D K p d) ∧ A 11 17 = (flo D K p d).2.2 ∧
  (∀ w, w < 9 → A 13 w = vv D K d p w) ∧ (∀ q, q < 8 → A 14 q = vv D K d q 6) ∧ LC D oL 1200 K ((LA.take (cLt (qF D) LA (d + 1))).flatMap (lns D)) A R ∧ A 11 12 = 0 ∧ AP D oL (wl D K d) (A 13) (sa D K (per D p) d).1 A sc
theorem fnx_a {hd am : Int32} {t : Int32 × Int32} (h : hd ≠ 0) (c : t.1 ≠ 0 ∧ am < t.2) : fnx hd am t = (t.1, t.2, t.2) := by unfold fnx; rw [if_neg h, if_pos c]
theorem fnx_b {hd am : Int32} {t : Int32 × Int32} (h : hd ≠ 0) (c : ¬ (t.1 ≠ 0 ∧ am < t.2)) : fnx hd am t = (0, t.2, am) := by unfold fnx; rw [if_neg h, if_neg c]
theorem cLt_le {f : Nat → Nat} {l : List Nat} {d : Nat} : cLt f l d ≤ l.length := List.length_filter_le _ _
section WALK2
variable {S D : HS} {LA NL : List Nat} {oA oL oN : Nat → Nat} {sc : Option Nat} {K : Int32} {p : Nat} {A : AA} {R : Nat → Option Nat}
theorem LC_wins (d : DRel S D LA NL oA oL oN) {day : Nat} (h : LC D oL 1200 K ((LA.take (cLt (qF D) LA (day + 1))).flatMap (lns D)) A R) : ∀ k, k < 156 → R k = (wins D day K k).map (fun q => oL q.2) := by
  intro k hk
  rw [(h k hk).1]
  congr 1
  have hs := srt (f := qF D) (d := day + 1) LA d.2.2.2.1.2.1
  have hd := d.2.2.1
  rw [← wg_wins d.2.2.2.1 day K k]
  conv => rhs; rw [← List.take_append_drop (cLt (qF D) LA (day + 1)) LA, List.flatMap_append]
  rw [(wf_skip (D := D) (day := day) (K := K) (k := k) (qs := (LA.take (cLt (qF D) LA (day + 1))).flatMap (lns D)) (rs := (LA.drop (cLt (qF D) LA (day + 1))).flatMap (lns D)) (fun q hq z => ?_)).2.2]
  · refine (fold_cg _ none (fun q hq => ?_)).2
    rw [hs.2] at hq
    obtain ⟨a, ha, hq⟩ := List.mem_flatMap.mp hq
    obtain ⟨ha, hf⟩ := List.mem_filter.mp ha
    have hf : qF D a < day + 1 := by simpa using hf
    have ea := (mem_lns.mp hq).1
    have la : qF D a < 1200 := (n_of_in (hd.2.2.2.1 a (List.mem_range.mp (d.2.2.2.1.1.mem_iff.mp ha)))).2
    unfold hit
    rw [ea]
    constructor
    · rintro ⟨z1, z2, z3⟩; exact ⟨z1, z2, by omega⟩
    · rintro ⟨z1, z2, z3⟩; exact ⟨z1, z2, by omega⟩
  · rw [hs.1] at hq
    obtain ⟨a, ha, hq⟩ := List.mem_flatMap.mp hq
    obtain ⟨ha, hf⟩ := List.mem_filter.mp ha
    have hf : day + 1 ≤ qF D a := by simpa using hf
    have ea := (mem_lns.mp hq).1
    have := z.2.2
    rw [ea] at this
    omega
theorem give_30 {v6 : Int32} {t : Int32 × Int32} {m : Nat} (h6 : v6 = 0 ∨ v6 = 1) (hv6 : A 13 6 = v6) (lm : m < 2147483648) (ham : A 12 6 = nI m) (h16 : A 11 16 = if t.1 = 0 then 0 else t.2) : ∃ A', fn_X7_give_30 (mc S A R sc) = some (mc S A' R sc) ∧ A' 11 16 = fC (fnx v6 (nI m) t) ∧ A' 11 17 = (fnx v6 (nI m) t).2.2 ∧ (∀ c, c ≠ 11 → A' c = A c) ∧ ∀ j, j ≠ 16 → j ≠ 17 → A' 11 j = A 11 j := by
  have f1 : vp_in 6 9 := (n_in (a := 6) (by decide)).mpr (by decide)
  have f2 : (6 : Int32).toNatClampNeg = 6 := rfl
  unfold fn_X7_give_30 fn_X7_isHeld fn_X7_isHeld_16 fn_X7_give_86
  simp only [f1, f2, gd_T, mc_a13, hv6, or_true, true_or, mc_a12, mc_a11, ham, h16, mc_s11]
  rcases h6 with rfl | rfl
  · refine ⟨up2 A 11 17 0, ?_, ?_, ?_, fun c hc => up2_ne hc, fun j h1 h2 => up2_nk h2⟩
    · rw [cd_f (by decide), bn2_s, cd_t rfl, bn_s, mc_s11]
    · rw [up2_nk (by decide), h16]
      unfold fnx fC
      rw [if_pos rfl]
    · rw [up2_eq]; unfold fnx; rw [if_pos rfl]
  · rw [cd_t rfl, bn2_s, cd_f (by decide)]
    simp only [mc_a12, mc_a11, ham, h16, mc_s11, bn_s, up2_ne (show 12 ≠ 11 by decide)]
    by_cases c : t.1 ≠ 0 ∧ nI m < t.2
    · rw [if_neg c.1, cd_t c.2]
      refine ⟨up2 A 11 17 t.2, rfl, ?_, ?_, fun c hc => up2_ne hc, fun j h1 h2 => up2_nk h2⟩
      · rw [up2_nk (by decide), h16]
        rw [fnx_a (by decide) c]
        unfold fC
        rw [if_neg c.1]
      · rw [up2_eq, fnx_a (by decide) c]
    · have hF : ¬ nI m < (if t.1 = 0 then 0 else t.2) := by
        by_cases c0 : t.1 = 0
        · rw [if_pos c0]; exact n_ge0 lm
        · rw [if_neg c0]; exact fun z => c ⟨c0, z⟩
      rw [cd_f hF]
      refine ⟨up2 (up2 A 11 16 0) 11 17 (nI m), ?_, ?_, ?_, fun c hc => by rw [up2_ne hc, up2_ne hc], fun j h1 h2 => by rw [up2_nk h2, up2_nk h1]⟩
      · rfl
      · rw [up2_nk (by decide), up2_eq]
        rw [fnx_b (by decide) c]
        unfold fC
        rw [if_pos rfl]
      · rw [up2_eq, fnx_b (by decide) c]
theorem give_C {v6 v8 g : Int32} {t t' : Int32 × Int32} {m : Nat} (h6 : v6 = 0 ∨ v6 = 1) (hv6 : A 13 6 = v6) (hv8 : A 13 8 = v8) (lm : m < 2147483648) (ham : A 12 6 = nI m) (h16 : A 11 16 = if t.1 = 0 then 0 else t.2) (h17 : A 11 17 = g) (h13 : (A 11 13 = 0 ∧ t' = t) ∨ (A 11 13 = 1 ∧ t' = (if v8 = 1 then 1 else 0, g))) : ∃ A', fn_X7_give (mc S A R sc) = some (mc S A' R sc) ∧ A' 11 16 = fC (fnx v6 (nI m) t') ∧ A' 11 17 = (fnx v6 (nI m) t').2.2 ∧ (∀ c, c ≠ 11 → A' c = A c) ∧ ∀ j, j ≠ 16 → j ≠ 17 → A' 11 j = A 11 j := by
  unfold fn_X7_give
  rcases h13 with ⟨e, rfl⟩ | ⟨e, rfl⟩
  · rw [mc_a11, e, cd_t rfl]
    exact give_30 h6 hv6 lm ham h16
  · have f1 : vp_in 8 9 := (n_in (a := 8) (by decide)).mpr (by decide)
    have f2 : (8 : Int32).toNatClampNeg = 8 := rfl
    have hf : ∀ F : Int32, (F = if (if v8 = 1 then (1 : Int32) else 0) = 0 then 0 else g) → ∃ A', fn_X7_give_27 F (mc S A R sc) = some (mc S A' R sc) ∧ A' 11 16 = fC (fnx v6 (nI m) (if v8 = 1 then 1 else 0, g)) ∧ A' 11 17 = (fnx v6 (nI m) (if v8 = 1 then 1 else 0, g)).2.2 ∧ (∀ c, c ≠ 11 → A' c = A c) ∧ ∀ j, j ≠ 16 → j ≠ 17 → A' 11 j = A 11 j := by
      intro F hF
      unfold fn_X7_give_27
      rw [bn_s, mc_s11]
      obtain ⟨A', q1, q2, q3, q4, q5⟩ := give_30 (S := S) (R := R) (sc := sc) (A := up2 A 11 16 F) (t := (if v8 = 1 then 1 else 0, g)) h6 (by rw [up2_ne (by decide)]; exact hv6) lm (by rw [up2_ne (by decide)]; exact ham) (by rw [up2_eq]; exact hF)
      exact ⟨A', q1, q2, q3, fun c hc => (q4 c hc).trans (up2_ne hc), fun j h1 h2 => (q5 j h1 h2).trans (up2_nk h1)⟩
    rw [mc_a11, e, cd_f (by decide), gd_t f1, f2, mc_a13, hv8, mc_a11, h17]
    by_cases c : v8 = 1
    · rw [cd_t c]
      exact hf g (by rw [if_pos c, if_neg (by decide)])
    · rw [cd_f c]
      exact hf 0 (by rw [if_neg c, if_pos rfl])
theorem openDay_C (d : DRel S D LA NL oA oL oN) (hp : p < qP D) {day : Nat} (hday : day < 1201) (h : PO D oL K p LA NL day A R sc) : ∃ A' R' sc', fn_X7_openDay (mc S A R sc) = some (mc S A' R' sc') ∧ CI D oL K p LA NL day A' R' sc' := by
  obtain ⟨h7, h8, h9, h10, h11, h14, h15, h16, h17, hv, hq, hL, h12⟩ := h
  have hd := d.2.2.1
  have la : qA D < 13 := (n_of_in hd.1).2
  have ln : qN D < 201 := (n_of_in hd.2.2.1).2
  have lP : qP D < 9 := (n_of_in hd.2.1).2
  have l4 := (sz_A d).2.2.1
  have l5 := (sz_A d).2.2.2.2.2
  have oA' := d.2.2.2.1
  have sA := srt_day (f := qF D) (d := day) oA'.2.1
  have sN := srt_day (f := nFr D) (d := day) oA'.2.2.2.2.1
  have iA := cLt_le (f := qF D) (l := LA) (d := day)
  have iN := cLt_le (f := nFr D) (l := NL) (d := day)
  have h12' : A 11 12 = 0 ∨ A 11 12 = 1 := by
    rcases h12 with q | q
    · exact Or.inr q
    · exact Or.inl q.1
  obtain ⟨A1, R1, a1, a2, a3, a4, a5, a6⟩ := takeA_5 (sc := sc) d hday (LA.drop (cLt (qF D) LA day)) (cLt (qF D) LA day) hFuel A R rfl (by rw [List.length_drop]; unfold hFuel; omega) iA h10 h9 h8 h12' hL
  rw [sA.2] at a2 a3
  rw [sA.1] at a4
  -- notes
  have hNC0 : NC D K p (vpr D K day) ((fpr D K p day).1, (fpr D K p day).2.1) (fpr D K p day).2.2 (up2 A1 11 13 0) [] (up2 A1 11 13 0) := by
    refine ⟨fun w hw => ?_, fun q hq' => ?_, Or.inl ⟨up2_eq, rfl⟩, ?_, fun c _ _ _ => rfl, fun j _ _ _ => rfl⟩
    · rw [up2_ne (by decide), a5 13 (by decide) (by decide) (by decide)]; exact hv w hw
    · rw [up2_ne (by decide), a5 14 (by decide) (by decide) (by decide)]; exact hq q hq'
    · rw [up2_nk (by decide)]
      rcases a4 with q | q
      · exact Or.inl q
      · exact Or.inr ⟨q.1, q.1, fun w _ => rfl⟩
  obtain ⟨A3, b1, b2, b3⟩ := takeN_10 (sc := sc) (R := R1) (K := K) (A1 := up2 A1 11 13 0) d hday (by omega : p < 8) (by rw [up2_nk (by decide), a6 7 (by decide) (by decide)]; exact h7) (by rw [up2_nk (by decide), a6 9 (by decide) (by decide)]; exact h9) (by rw [up2_nk (by decide), a6 8 (by decide) (by decide)]; exact h8) (NL.drop (cLt (nFr D) NL day)) (cLt (nFr D) NL day) hFuel (up2 A1 11 13 0) [] rfl (by rw [List.length_drop]; unfold hFuel; omega) iN (by rw [up2_nk (by decide), a6 11 (by decide) (by decide)]; exact h11) hNC0
  rw [sN.2] at b2
  rw [List.nil_append, sN.1, show NL.filter (fun k => nFr D k == day) = dn D day from oA'.2.2.2.2.2 day] at b3
  obtain ⟨n1, n2, n3, n4, n5, n6⟩ := b3
  rw [← vv_eq] at n1 n2 n3
  have e12 : A3 12 = A 12 := (n5 12 (by decide) (by decide) (by decide)).trans ((up2_ne (by decide)).trans (a5 12 (by decide) (by decide) (by decide)))
  have e11 : ∀ j, j ≠ 10 → j ≠ 11 → j ≠ 12 → j ≠ 13 → A3 11 j = A 11 j := fun j z1 z2 z3 z4 => (n6 j z2 z3 z4).trans ((up2_nk z4).trans (a6 j z1 z3))
  have e910 : ∀ c, c = 9 ∨ c = 10 → A3 c = A1 c := fun c hc => (n5 c (by omega) (by omega) (by omega)).trans (up2_ne (by omega))
  have hL3 : LC D oL 1200 K ((LA.take (cLt (qF D) LA (day + 1))).flatMap (lns D)) A3 R1 := by
    intro k hk
    rw [e910 9 (Or.inl rfl), e910 10 (Or.inr rfl)]
    exact a3 k hk
  have hW := wl_WOK hd K day
  have hWC : WC D oL (wl D K day) R1 := WC_of hd (LC_wins d hL3)
  have lsa := (sa_b (D := D) (K := K) (who := per D p) day).1
  have e14 : A3 11 14 = nI (sa D K (per D p) day).1 := (e11 14 (by decide) (by decide) (by decide) (by decide)).trans h14
  -- appraisal
  have happ : ∃ A4 sc', (cd (A3 11 12 = 0) (bn (fn_X1_follow (A3 11 14) (mc S A3 R1 sc)) (fun S3 => fn_X7_openDay_56 S3)) (bn (fn_X1_renew (A3 11 14) (mc S A3 R1 sc)) (fun S4 => fn_X7_openDay_56 S4))) = fn_X7_openDay_56 (mc S A4 R1 sc') ∧ AP D oL (wl D K day) (A3 13) (sa D K (per D p) day).1 A4 sc' ∧ ∀ c, c ≠ 12 → A4 c = A3 c := by
    rw [e14]
    rcases n4 with q | ⟨q1, q2, q3⟩
    · obtain ⟨A4, r1, r2, r3⟩ := renew_C (A := A3) (sc := sc) d hW hWC (by omega : (sa D K (per D p) day).1 < 2147483648)
      exact ⟨A4, _, by rw [q, cd_f (by decide), r1, bn_s], r2, r3⟩
    · rw [up2_nk (by decide)] at q2
      rcases a4 with z | ⟨z1, z2, z3⟩
      · exact absurd (q2.symm.trans z) (by decide)
      · rcases h12 with z | ⟨_, ld, s0, hap⟩
        · exact absurd (z2.symm.trans z) (by decide)
        · have ew : wl D K day = wl D K (day - 1) := by
            refine wl_same hd (by omega) (fun b hb hk c1 c2 => ?_)
            have e0 : qF D b = day := by omega
            exact z3 b (List.mem_filter.mpr ⟨oA'.1.mem_iff.mpr (List.mem_range.mpr hb), by simp [e0]⟩) hk
          have ev : ∀ j, j < 6 → A 13 j = A3 13 j := fun j hj => by rw [q3 j hj, up2_ne (by decide), a5 13 (by decide) (by decide) (by decide)]
          have hap3 : AP D oL (wl D K day) (A3 13) s0 A3 sc := by
            obtain ⟨c1, c2, c3, c4, c5, c6⟩ := d_cg hW ev
            rw [← ew] at hap
            unfold AP at *
            rw [e12, ← c1, ← c2, ← c3, ← c4, ← c5, ← c6]
            exact hap
          obtain ⟨A4, r1, r2, r3⟩ := follow_C d hW hWC (by omega : (sa D K (per D p) day).1 < 2147483648) hap3
          exact ⟨A4, sc, by rw [cd_t q1, r1, bn_s], r2, r3⟩
  obtain ⟨A4, sc', c1, c2, c3⟩ := happ
  -- given
  have hcg := d_cg hW (V := A3 13) (V' := vv D K day p) (fun j hj => n1 j (by omega))
  obtain ⟨m, lm, em⟩ := dAm_b (V := vv D K day p) hW (by omega : (sa D K (per D p) day).1 < 2147483648)
  have ham : A4 12 6 = nI m := by rw [c2.2.2.2.2.2.1, hcg.2.2.2.2.2]; exact em
  obtain ⟨A5, g1, g2, g3, g4, g5⟩ := give_C (S := S) (R := R1) (sc := sc') (A := up2 A4 11 12 0) (t := ((fpr D K p day).1, (fpr D K p day).2.1)) (t' := (dn D day).foldl (pfl D K p (fpr D K p day).2.2) ((fpr D K p day).1, (fpr D K p day).2.1)) (g := (fpr D K p day).2.2) (v6 := vv D K day p 6) (v8 := vv D K day p 8) (m := m) (vv_K hd day p).1 (by rw [up2_ne (by decide), c3 13 (by decide)]; exact n1 6 (by decide)) (by rw [up2_ne (by decide), c3 13 (by decide)]; exact n1 8 (by decide)) (by omega) (by rw [up2_ne (by decide)]; exact ham) (by rw [up2_nk (by decide), c3 11 (by decide), e11 16 (by decide) (by decide) (by decide) (by decide), h16]; rfl) (by rw [up2_nk (by decide), c3 11 (by decide), e11 17 (by decide) (by decide) (by decide) (by decide)]; exact h17) (by rw [up2_nk (by decide), c3 11 (by decide)]; exact n3)
  have efl : flo D K p day = fnx (vv D K day p 6) (nI m) ((dn D day).foldl (pfl D K p (fpr D K p day).2.2) ((fpr D K p day).1, (fpr D K p day).2.1)) := by
    rw [flo_eq, ← em]; rfl
  have z11 : ∀ j, j ≠ 10 → j ≠ 11 → j ≠ 12 → j ≠ 13 → j ≠ 16 → j ≠ 17 → A5 11 j = A 11 j := fun j z1 z2 z3 z4 z5 z6 => (g5 j z5 z6).trans ((up2_nk z3).trans ((by rw [c3 11 (by decide)] : A4 11 j = A3 11 j).trans (e11 j z1 z2 z3 z4)))
  have z13 : ∀ c, c ≠ 11 → c ≠ 12 → A5 c = A3 c := fun c z1 z2 => (g4 c z1).trans ((up2_ne z1).trans (c3 c z2))
  have z12 : A5 12 = A4 12 := (g4 12 (by decide)).trans (up2_ne (by decide))
  refine ⟨A5, R1, sc', ?_, ?_, ?_, ?_, ?_, ?_, ?_, ?_, ?_, ?_, ?_, ?_, ?_, ?_, ?_⟩
  · unfold fn_X7_openDay fn_X7_takeAgreements fn_X7_takeNotes
    rw [bn_s, mc_a11, h10, a1, bn_s, bn_s, bn_s, mc_s11, mc_a11, up2_nk (by decide), a6 11 (by decide) (by decide), h11, b1, bn_s, mc_a11, mc_a11, c1]
    unfold fn_X7_openDay_56
    rw [bn_s, mc_s11, g1, bn_s]
  · exact (z11 7 (by decide) (by decide) (by decide) (by decide) (by decide) (by decide)).trans h7
  · exact (z11 8 (by decide) (by decide) (by decide) (by decide) (by decide) (by decide)).trans h8
  · exact (z11 9 (by decide) (by decide) (by decide) (by decide) (by decide) (by decide)).trans h9
  · rw [g5 10 (by decide) (by decide), up2_nk (by decide), c3 11 (by decide), n6 10 (by decide) (by decide) (by decide), up2_nk (by decide)]; exact a2
  · rw [g5 11 (by decide) (by decide), up2_nk (by decide), c3 11 (by decide)]; exact b2
  · exact (z11 14 (by decide) (by decide) (by decide) (by decide) (by decide) (by decide)).trans h14
  · exact (z11 15 (by decide) (by decide) (by decide) (by decide) (by decide) (by decide)).trans h15
  · rw [g2, efl]
  · rw [g3, efl]
  · intro w hw; rw [z13 13 (by decide) (by decide)]; exact n1 w hw
  · intro q hq'; rw [z13 14 (by decide) (by decide)]; exact n2 q hq'
  · intro k hk; rw [z13 9 (by decide) (by decide), z13 10 (by decide) (by decide)]; exact hL3 k hk
  · rw [g5 12 (by decide) (by decide), up2_eq]
  · unfold AP; rw [z12, z13 13 (by decide) (by decide)]; exact c2
end WALK2
