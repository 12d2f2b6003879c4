/-! parts of a line, on both sides -/
/-- what the class's reading of a line leaves -/
def CO (o e : Nat) (S S' : HS) : Prop := (∀ c, c ≠ 2 → c ≠ o → c ≠ e → gI S' c = gI S c) ∧ (∀ j, j < 3 ∨ 7 < j → gI S' 2 j = gI S 2 j) ∧ gR S' = gR S ∧ gJ S' = gJ S ∧ gK S' = gK S ∧ gN S' = gN S ∧ gZ S' = gZ S
theorem CO.tr {o e : Nat} {S S' S'' : HS} (h : CO o e S S') (h2 : CO o e S' S'') : CO o e S S'' := ⟨fun c h1 h3 h4 => (h2.1 c h1 h3 h4).trans (h.1 c h1 h3 h4), fun j hj => (h2.2.1 j hj).trans (h.2.1 j hj), h2.2.2.1.trans h.2.2.1, h2.2.2.2.1.trans h.2.2.2.1, h2.2.2.2.2.1.trans h.2.2.2.2.1, h2.2.2.2.2.2.1.trans h.2.2.2.2.2.1, h2.2.2.2.2.2.2.trans h.2.2.2.2.2.2⟩
theorem CO.rf {o e : Nat} {S : HS} : CO o e S S := ⟨fun _ _ _ _ => rfl, fun _ _ => rfl, rfl, rfl, rfl, rfl, rfl⟩
theorem C2.o {o e : Nat} {S S' : HS} (h : C2 S S') : CO o e S S' := ⟨fun c h1 _ _ => h.1 c h1, h.2⟩
theorem CO_o {o e j : Nat} {v : Int32} {S : HS} (h : o ≠ 2) : CO o e S (sI S o j v) := ⟨fun c _ h2 _ => sI_ne h2, fun i _ => by rw [sI_ne (Ne.symm h)], rfl, rfl, rfl, rfl, rfl⟩
theorem CO_e {o e j : Nat} {v : Int32} {S : HS} (h : e ≠ 2) : CO o e S (sI S e j v) := ⟨fun c _ _ h3 => sI_ne h3, fun i _ => by rw [sI_ne (Ne.symm h)], rfl, rfl, rfl, rfl, rfl⟩
/-- what the reference's reading of line n leaves -/
def MO (n : Nat) (M M' : HS) : Prop := (∀ c, c < 5 ∨ 13 < c → c ≠ 0 → gI M' c = gI M c) ∧ (∀ c j, c ≠ 0 → c ≠ 12 → j ≠ n → gI M' c j = gI M c j) ∧ (∀ j, j < 8 * n ∨ 8 * n + 8 ≤ j → gI M' 12 j = gI M 12 j) ∧ (∀ j, j < 18 ∨ 23 < j → gI M' 0 j = gI M 0 j) ∧ gJ M' = gJ M
theorem MO.tr {n : Nat} {M M' M'' : HS} (h : MO n M M') (h2 : MO n M' M'') : MO n M M'' := ⟨fun c a1 a2 => (h2.1 c a1 a2).trans (h.1 c a1 a2), fun c j a1 a2 a3 => (h2.2.1 c j a1 a2 a3).trans (h.2.1 c j a1 a2 a3), fun j a => (h2.2.2.1 j a).trans (h.2.2.1 j a), fun j a => (h2.2.2.2.1 j a).trans (h.2.2.2.1 j a), h2.2.2.2.2.trans h.2.2.2.2⟩
theorem MO.rf {n : Nat} {M : HS} : MO n M M := ⟨fun _ _ _ => rfl, fun _ _ _ _ _ => rfl, fun _ _ => rfl, fun _ _ => rfl, rfl⟩
theorem M2.o {n : Nat} {M M' : HS} (h : M2 M M') : MO n M M' := ⟨fun c _ a2 => h.1 c a2, fun c j a1 _ _ => by rw [h.1 c a1], fun j _ => by rw [h.1 12 (by decide)], h.2.1, h.2.2⟩
theorem MO_s {n c : Nat} {v : Int32} {M : HS} (h1 : 5 ≤ c ∧ c ≤ 13) (h2 : c ≠ 12) : MO n M (sI M c n v) := ⟨fun b hb _ => sI_ne (by omega), fun b j _ _ a3 => sI_nk a3, fun j _ => by rw [sI_ne (Ne.symm h2)], fun j _ => by rw [sI_ne (by omega)], rfl⟩
theorem MO_12 {n k : Nat} {v : Int32} {M : HS} (h : k < 8) : MO n M (sI M 12 (8 * n + k) v) := ⟨fun b hb _ => sI_ne (by omega), fun b j _ a2 _ => by rw [sI_ne a2], fun j a => sI_nk (by omega), fun j _ => by rw [sI_ne (by decide)], rfl⟩
section PARTS
variable {b : Nat → Nat} {N : Nat} {S M : HS}
theorem PF_num (h : PF S M b N) : ∃ r S', fn_X4_takeNumber S = some (r, S') ∧ C2 S S' ∧ PF S' M b N := by
  obtain ⟨r, S', r', M', q1, q2, q3, q4, q5, q6⟩ := num2 (Or.inr h)
  have : fn_X9_takes 3 M = some (0, M) := by unfold fn_X9_takes; rw [cd_f h.2.2.2.1]
  rw [this] at q2
  injection q2 with q2
  injection q2 with e1 e2
  subst e2
  rcases q5 with q5 | q5
  · obtain ⟨st, _, _, _, z, _⟩ := q5
    exact absurd z h.2.2.2.1
  · exact ⟨r, S', q1, q3, q5⟩
theorem PF_rel (h : PF S M b N) : ∃ r S', fn_X4_takeRelation S = some (r, S') ∧ C2 S S' ∧ PF S' M b N := by
  obtain ⟨st, a1⟩ := h.1
  obtain ⟨S', q1, q2, q3, q4, q5⟩ := advF a1
  have hy : ∀ v, ∃ r S', fn_X4_takeRelation_35 v S = some (r, S') ∧ C2 S S' ∧ PF S' M b N := fun v => ⟨v, S', by unfold fn_X4_takeRelation_35; rw [q1, bn_s], q2, PF_C h ⟨_, q5⟩ q3 q4⟩
  unfold fn_X4_takeRelation
  rw [bn_s]
  by_cases c1 : gI S 2 5 = 60
  · rw [cd_t c1]; exact hy _
  rw [cd_f c1]
  by_cases c2 : gI S 2 5 = 62
  · rw [cd_t c2]; exact hy _
  rw [cd_f c2]
  by_cases c3 : gI S 2 5 = 61
  · rw [cd_t c3]; exact hy _
  rw [cd_f c3]
  exact ⟨61, S, by rw [PF_r (by decide) h, bn_s], C2.rf, h⟩
theorem PF_sI {o j : Nat} {v : Int32} (h1 : o ≠ 1) (h2 : o ≠ 2) (h : PF S M b N) : PF (sI S o j v) M b N := by
  rcases PZ_c (v := v) (j := j) h1 h2 (Or.inr h) with q | q
  · obtain ⟨st, _, _, _, z, _⟩ := q
    exact absurd z h.2.2.2.1
  · exact q
/-! a condition -/
theorem cond2 {o n : Nat} (ho : 65 ≤ o) (hk : gK S o = 3) (hn : n < 481) (h : PZ S M b N) : ∃ S' M', fn_X4_readCondition o S = some S' ∧ fn_X9_factOf (nI n) M = some M' ∧ CO o o S S' ∧ MO n M M' ∧ (∀ j, j ≠ 5 → j ≠ 6 → j ≠ 7 → gI S' o j = gI S o j) ∧ (∀ c, c ≠ 0 → c ≠ 7 → c ≠ 8 → c ≠ 9 → gI M' c = gI M c) ∧ PZ S' M' b N ∧ (gI M' 0 22 = 0 → ∃ v, v < 6 ∧ gI S' o 5 = nI v ∧ gI M' 7 n = nI v ∧ gI S' o 6 = gI M' 8 n ∧ gI S' o 7 = gI M' 9 n) := by
  have f1 : vp_in (nI n) 481 := (n_in (by omega)).mpr hn
  have f2 : (nI n).toNatClampNeg = n := n_cl (by omega)
  obtain ⟨r, S1, r', M1, q1, q2, q3, q4, q5, q6, _⟩ := let2 (lo := 65) (hi := 70) (wa := 2) (Or.inr ⟨rfl, rfl, rfl⟩) h
  have hz1 : PZ (sI S1 o 5 r) (sI M1 7 n r') b N := PZ_m (by decide) (by decide) (PZ_c (by omega) (by omega) q5)
  have hk1 : gK S1 o = 3 := by rw [q3.2.2.2.2.1]; exact hk
  -- behind a fault the class runs to its end
  have hrun : ∀ (T : HS), gK T o = 3 → PF T (sI M1 7 n r') b N → ∃ T', (bn2 (fn_X4_takeRelation T) fun r6 S5 => gd (gK S5 o = 3) (bn (some (sI S5 o 6 r6)) fun S8 => bn2 (fn_X4_takeNumber S8) fun r10 S9 => gd (gK S9 o = 3) (bn (some (sI S9 o 7 r10)) fun S12 => some S12))) = some T' ∧ CO o o T T' ∧ (∀ j, j ≠ 5 → j ≠ 6 → j ≠ 7 → gI T' o j = gI T o j) ∧ PF T' (sI M1 7 n r') b N := by
    intro T hT hf
    obtain ⟨r6, T1, u1, u2, u3⟩ := PF_rel hf
    obtain ⟨r10, T2, w1, w2, w3⟩ := PF_num (PF_sI (j := 6) (v := r6) (by omega : o ≠ 1) (by omega : o ≠ 2) u3)
    refine ⟨sI T2 o 7 r10, ?_, ((u2.o.tr (CO_o (by omega))).tr w2.o).tr (CO_o (by omega)), fun j z1 z2 z3 => ?_, PF_sI (by omega) (by omega) w3⟩
    · rw [u1, bn2_s, gd_t (by rw [u2.2.2.2.2.1]; exact hT), bn_s, w1, bn2_s, gd_t (by rw [w2.2.2.2.2.1]; show gK T1 o = 3; rw [u2.2.2.2.2.1]; exact hT), bn_s]
    · rw [sI_nk z3, w2.1 o (by omega), sI_nk z2, u2.1 o (by omega)]
  have hcl : fn_X4_readCondition o S = bn2 (fn_X4_takeRelation (sI S1 o 5 r)) fun r6 S5 => gd (gK S5 o = 3) (bn (some (sI S5 o 6 r6)) fun S8 => bn2 (fn_X4_takeNumber S8) fun r10 S9 => gd (gK S9 o = 3) (bn (some (sI S9 o 7 r10)) fun S12 => some S12)) := by
    unfold fn_X4_readCondition
    rw [show fn_X4_takeLetter 65 70 S = some (r, S1) from q1, bn2_s, gd_t hk1, bn_s]
  have hrf : fn_X9_factOf (nI n) M = cd (gI (sI M1 7 n r') 0 22 = 0) (bn2 (fn_X9_isSign 60 (sI M1 7 n r')) (fun r6 S5 => cd (r6 = 0) (bn2 (fn_X9_isSign 62 S5) (fun r8 S7 => cd (r8 = 0) (bn2 (fn_X9_isSign 61 S7) (fun r10 S9 => cd (r10 = 0) (bn (fn_X9_wrong 1 (gI S9 0 19) S9) (fun S11 => some S11)) (fn_X9_factOf_56 (nI n) S9))) (fn_X9_factOf_56 (nI n) S7))) (fn_X9_factOf_56 (nI n) S5))) (some (sI M1 7 n r')) := by
    unfold fn_X9_factOf
    rw [q2, bn2_s, gd_t f1, f2, bn_s]
  rw [hcl, hrf]
  have hCO1 : CO o o S (sI S1 o 5 r) := q3.o.tr (CO_o (by omega))
  have hMO1 : MO n M (sI M1 7 n r') := q4.o.tr (MO_s (by omega) (by decide))
  have hm7 : ∀ c, c ≠ 0 → c ≠ 7 → c ≠ 8 → c ≠ 9 → gI (sI M1 7 n r') c = gI M c := fun c z0 z7 _ _ => by rw [sI_ne z7, q4.1 c z0]
  have ho5 : ∀ j, j ≠ 5 → j ≠ 6 → j ≠ 7 → gI (sI S1 o 5 r) o j = gI S o j := fun j z _ _ => by rw [sI_nk z, q3.1 o (by omega)]
  have hk5 : gK (sI S1 o 5 r) o = 3 := hk1
  rcases hz1 with hx | hf
  · have hx0 := hx
    obtain ⟨st, a1, a2, a3, a4, a5⟩ := hx
    have hr := q6 (by have : gI (sI M1 7 n r') 0 22 = gI M1 0 22 := by rw [sI_ne (by decide)]
                      rw [← this]; exact a4)
    obtain ⟨v5, lv5, er, er'⟩ := hr
    rw [cd_t a4]
    have hsg : ∀ c : Nat, isS c = true → fn_X9_isSign (nI c) (sI M1 7 n r') = some (if gI (sI S1 o 5 r) 2 5 = nI c then 1 else 0, sI M1 7 n r') := by
      intro c hc
      have hi := sgn_iff a1 a2 hc
      unfold fn_X9_isSign fn_X9_isSign_27 fn_X9_isSign_28
      simp only [or_true, true_or, gd_T]
      rw [cd_t a4]
      by_cases z : gI (sI S1 o 5 r) 2 5 = nI c
      · rw [cd_t (hi.mp z).1, cd_t (hi.mp z).2, if_pos z]
      · rw [if_neg z]
        by_cases z1 : gI (sI M1 7 n r') 0 20 = 4
        · rw [cd_t z1, cd_f (fun z2 => z (hi.mpr ⟨z1, z2⟩))]
        · rw [cd_f z1]
    have hyes : ∀ c : Nat, isS c = true → gI (sI S1 o 5 r) 2 5 = nI c → ∃ S' M', (bn2 (fn_X4_takeRelation_35 (nI c) (sI S1 o 5 r)) fun r6 S5 => gd (gK S5 o = 3) (bn (some (sI S5 o 6 r6)) fun S8 => bn2 (fn_X4_takeNumber S8) fun r10 S9 => gd (gK S9 o = 3) (bn (some (sI S9 o 7 r10)) fun S12 => some S12))) = some S' ∧ fn_X9_factOf_56 (nI n) (sI M1 7 n r') = some M' ∧ CO o o S S' ∧ MO n M M' ∧ (∀ j, j ≠ 5 → j ≠ 6 → j ≠ 7 → gI S' o j = gI S o j) ∧ (∀ c, c ≠ 0 → c ≠ 7 → c ≠ 8 → c ≠ 9 → gI M' c = gI M c) ∧ PZ S' M' b N ∧ (gI M' 0 22 = 0 → ∃ v, v < 6 ∧ gI S' o 5 = nI v ∧ gI M' 7 n = nI v ∧ gI S' o 6 = gI M' 8 n ∧ gI S' o 7 = gI M' 9 n) := by
      intro c hc hkc
      have hva := ((sgn_iff a1 a2 hc).mp hkc).2
      have hx8 : PX (sI S1 o 5 r) (sI (sI M1 7 n r') 8 n (nI c)) b N := PZ_x (PZ_m (c := 8) (j := n) (v := nI c) (by decide) (by decide) (Or.inl hx0)) (by rw [sI_ne (by decide)]; exact a4)
      obtain ⟨S2, M2', u1, u2, u3, u4, u5⟩ := adv2 hx8
      obtain ⟨r10, S3, r5, M3, w1, w2, w3, w4, w5, w6⟩ := num2 (S := sI S2 o 6 (nI c)) (M := M2') (PZ_c (by omega) (by omega) (Or.inl u5))
      have hk2 : gK S2 o = 3 := by rw [u3.2.2.2.2.1]; exact hk5
      refine ⟨sI S3 o 7 r10, sI M3 9 n r5, ?_, ?_, (((hCO1.tr u3.o).tr (CO_o (by omega))).tr w3.o).tr (CO_o (by omega)), (((hMO1.tr (MO_s (by omega) (by decide))).tr u4.o).tr w4.o).tr (MO_s (by omega) (by decide)), fun j z5 z6 z7 => ?_, fun c z0 z7 z8 z9 => ?_, PZ_m (by decide) (by decide) (PZ_c (by omega) (by omega) w5), fun z => ?_⟩
      · unfold fn_X4_takeRelation_35
        rw [u1, bn_s, bn2_s, gd_t hk2, bn_s, w1, bn2_s, gd_t (by rw [w3.2.2.2.2.1]; exact hk2), bn_s]
      · unfold fn_X9_factOf_56
        rw [gd_t f1, f2, hva, bn_s, u2, bn_s, w2, bn2_s, gd_t f1, bn_s]
      · rw [sI_nk z7, w3.1 o (by omega), sI_nk z6, u3.1 o (by omega)]; exact ho5 j z5 z6 z7
      · rw [sI_ne z9, w4.1 c z0, u4.1 c z0, sI_ne z8]; exact hm7 c z0 z7 z8 z9
      · have z : gI M3 0 22 = 0 := by rw [sI_ne (by decide)] at z; exact z
        obtain ⟨v, lv, e1, e2⟩ := w6 z
        refine ⟨v5, by omega, ?_, ?_, ?_, ?_⟩
        · rw [sI_nk (by decide), w3.1 o (by omega), sI_nk (by decide), u3.1 o (by omega), sI_eq, er]
        · rw [sI_ne (by decide), w4.1 7 (by decide), u4.1 7 (by decide), sI_ne (by decide), sI_eq, er']
        · rw [sI_nk (by decide), w3.1 o (by omega), sI_eq, sI_ne (by decide), w4.1 8 (by decide), u4.1 8 (by decide), sI_eq]
        · rw [sI_eq, sI_eq, e1, e2]
    unfold fn_X4_takeRelation
    rw [bn_s]
    by_cases c1 : gI (sI S1 o 5 r) 2 5 = nI 60
    · obtain ⟨S', M', y1, y2, y3⟩ := hyes 60 (by decide) c1
      refine ⟨S', M', ?_, ?_, y3⟩
      · rw [cd_t (show gI (sI S1 o 5 r) 2 5 = 60 from c1), c1]; exact y1
      · rw [show (60 : Int32) = nI 60 from rfl, hsg 60 (by decide), if_pos c1, bn2_s, cd_f z10]; exact y2
    by_cases c2 : gI (sI S1 o 5 r) 2 5 = nI 62
    · obtain ⟨S', M', y1, y2, y3⟩ := hyes 62 (by decide) c2
      refine ⟨S', M', ?_, ?_, y3⟩
      · rw [cd_f (show ¬ gI (sI S1 o 5 r) 2 5 = 60 from c1), cd_t (show gI (sI S1 o 5 r) 2 5 = 62 from c2), c2]; exact y1
      · rw [show (60 : Int32) = nI 60 from rfl, hsg 60 (by decide), if_neg c1, bn2_s, cd_t rfl, show (62 : Int32) = nI 62 from rfl, hsg 62 (by decide), if_pos c2, bn2_s, cd_f z10]; exact y2
    by_cases c3 : gI (sI S1 o 5 r) 2 5 = nI 61
    · obtain ⟨S', M', y1, y2, y3⟩ := hyes 61 (by decide) c3
      refine ⟨S', M', ?_, ?_, y3⟩
      · rw [cd_f (show ¬ gI (sI S1 o 5 r) 2 5 = 60 from c1), cd_f (show ¬ gI (sI S1 o 5 r) 2 5 = 62 from c2), cd_t (show gI (sI S1 o 5 r) 2 5 = 61 from c3), c3]; exact y1
      · rw [show (60 : Int32) = nI 60 from rfl, hsg 60 (by decide), if_neg c1, bn2_s, cd_t rfl, show (62 : Int32) = nI 62 from rfl, hsg 62 (by decide), if_neg c2, bn2_s, cd_t rfl, show (61 : Int32) = nI 61 from rfl, hsg 61 (by decide), if_pos c3, bn2_s, cd_f z10]; exact y2
    · have e3 : gI (sI S1 o 5 r) 2 3 = gI (sI M1 7 n r') 0 19 := a1.2.2.2.1.trans a2.2.1.symm
      obtain ⟨S2, M3, u1, u2, u3, u4, u5⟩ := ref2 (k := 1) (by decide) e3 (Or.inl hx0)
      obtain ⟨r10, S3, w1, w2, w3⟩ := PF_num (PF_sI (j := 6) (v := 61) (by omega : o ≠ 1) (by omega : o ≠ 2) u5)
      have hk2 : gK S2 o = 3 := by rw [u3.2.2.2.2.1]; exact hk5
      refine ⟨sI S3 o 7 r10, M3, ?_, ?_, (((hCO1.tr u3.o).tr (CO_o (by omega))).tr w2.o).tr (CO_o (by omega)), hMO1.tr u4.o, fun j z5 z6 z7 => ?_, fun c z0 z7 z8 z9 => ?_, Or.inr (PF_sI (by omega) (by omega) w3), fun z => absurd z w3.2.2.2.1⟩
      · rw [cd_f (show ¬ gI (sI S1 o 5 r) 2 5 = 60 from c1), cd_f (show ¬ gI (sI S1 o 5 r) 2 5 = 62 from c2), cd_f (show ¬ gI (sI S1 o 5 r) 2 5 = 61 from c3), u1, bn_s, bn2_s, gd_t hk2, bn_s, w1, bn2_s, gd_t (by rw [w2.2.2.2.2.1]; exact hk2), bn_s]
      · rw [show (60 : Int32) = nI 60 from rfl, hsg 60 (by decide), if_neg c1, bn2_s, cd_t rfl, show (62 : Int32) = nI 62 from rfl, hsg 62 (by decide), if_neg c2, bn2_s, cd_t rfl, show (61 : Int32) = nI 61 from rfl, hsg 61 (by decide), if_neg c3, bn2_s, cd_t rfl, u2, bn_s]
      · rw [sI_nk z7, w2.1 o (by omega), sI_nk z6, u3.1 o (by omega)]; exact ho5 j z5 z6 z7
      · rw [u4.1 c z0]; exact hm7 c z0 z7 z8 z9
  · obtain ⟨T', u1, u2, u3, u4⟩ := hrun _ hk5 hf
    exact ⟨T', _, u1, cd_f hf.2.2.2.1, hCO1.tr u2, hMO1, fun j z5 z6 z7 => (u3 j z5 z6 z7).trans (ho5 j z5 z6 z7), hm7, Or.inr u4, fun z => absurd z u4.2.2.2.1⟩
end PARTS
