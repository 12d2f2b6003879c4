/-! what stands behind a line's name -/
def LNf (o e n k : Nat) (S M : HS) : Prop := gI S o 5 = gI M 7 n ∧ (gI M 7 n = -1 ∨ vp_in (gI M 7 n) 6) ∧ (gI M 7 n ≠ -1 → gI S o 6 = gI M 8 n ∧ gI S o 7 = gI M 9 n) ∧ (k ≠ 2 → gI S o 8 = gI M 10 n ∧ vp_in (gI M 10 n) 10000) ∧ gI S o 9 = gI M 11 n ∧ (gI M 11 n = 0 ∨ gI M 11 n = 1) ∧ (gI M 11 n = 1 → vp_in (gI M 10 n) 1000) ∧ (k = 3 → gI M 10 n ≠ 0) ∧ (k = 2 → ∃ k', 1 ≤ k' ∧ k' ≤ 8 ∧ SKn o e n k' S M)
/-- what is the same behind a body -/
def BO (o e n : Nat) (S S' M M' : HS) : Prop := CO o e S S' ∧ MO n M M' ∧ (gI S' o 0 = gI S o 0 ∧ gI S' o 1 = gI S o 1 ∧ gI S' o 4 = gI S o 4) ∧ gI M' 5 n = gI M 5 n ∧ gI M' 6 n = gI M 6 n
section BODY
variable {b : Nat → Nat} {N : Nat} {S M : HS}
/-- a number, written down on both sides -/
theorem numW {o e n : Nat} (ho : 65 ≤ o) (hn : n < 481) (h : PZ S M b N) : ∃ r S' r' M', fn_X4_takeNumber S = some (r, S') ∧ fn_X9_takes 3 M = some (r', M') ∧ gK S' = gK S ∧ BO o e n S (sI S' o 8 r) M (sI M' 10 n r') ∧ (∀ j, j ≠ 8 → gI (sI S' o 8 r) o j = gI S o j) ∧ (∀ c, c ≠ 0 → c ≠ 10 → gI (sI M' 10 n r') c = gI M c) ∧ PZ (sI S' o 8 r) (sI M' 10 n r') b N ∧ (gI (sI M' 10 n r') 0 22 = 0 → gI (sI S' o 8 r) o 8 = gI (sI M' 10 n r') 10 n ∧ vp_in (gI (sI M' 10 n r') 10 n) 10000) := by
  obtain ⟨r, S', r', M', w1, w2, w3, w4, w5, w6⟩ := num2 h
  refine ⟨r, S', r', M', w1, w2, w3.2.2.2.2.1, ⟨w3.o.tr (CO_o (by omega)), w4.o.tr (MO_s (by omega) (by decide)), ⟨?_, ?_, ?_⟩, ?_, ?_⟩, fun j hj => ?_, fun c z0 z1 => ?_, PZ_m (by decide) (by decide) (PZ_c (by omega) (by omega) w5), fun z => ?_⟩
  · rw [sI_nk (by decide), w3.1 o (by omega)]
  · rw [sI_nk (by decide), w3.1 o (by omega)]
  · rw [sI_nk (by decide), w3.1 o (by omega)]
  · rw [sI_ne (by decide), w4.1 5 (by decide)]
  · rw [sI_ne (by decide), w4.1 6 (by decide)]
  · rw [sI_nk hj, w3.1 o (by omega)]
  · rw [sI_ne z1, w4.1 c z0]
  · rw [sI_ne (by decide)] at z
    obtain ⟨v, lv, e1, e2⟩ := w6 z
    rw [sI_eq, sI_eq, e1, e2]
    exact ⟨rfl, (n_in (by omega)).mpr lv⟩
theorem BO.tr {o e n : Nat} {S S' S'' M M' M'' : HS} (h : BO o e n S S' M M') (h2 : BO o e n S' S'' M' M'') : BO o e n S S'' M M'' := ⟨h.1.tr h2.1, h.2.1.tr h2.2.1, ⟨h2.2.2.1.1.trans h.2.2.1.1, h2.2.2.1.2.1.trans h.2.2.1.2.1, h2.2.2.1.2.2.trans h.2.2.1.2.2⟩, h2.2.2.2.1.trans h.2.2.2.1, h2.2.2.2.2.trans h.2.2.2.2⟩
theorem BO_2 {o e n : Nat} {S S' M M' : HS} (ho : o ≠ 2) (h : C2 S S') (h2 : M2 M M') : BO o e n S S' M M' := ⟨h.o, h2.o, ⟨by rw [h.1 o ho], by rw [h.1 o ho], by rw [h.1 o ho]⟩, by rw [h2.1 5 (by decide)], by rw [h2.1 6 (by decide)]⟩
theorem CO_any {o e : Nat} {S S' : HS} (h : CO o o S S') : CO o e S S' := ⟨fun c h1 h2 _ => h.1 c h1 h2 h2, h.2⟩
/-! a test -/
theorem body_test {o e n ca sl : Nat} (ho : 65 ≤ o) (hn : n < 481) (hk : gK S o = 3) (h9 : gI S o 9 = 0) (h11 : gI M 11 n = 0) (h : PZ S M b N) : ∃ S' M', fn_X4_readBody_32 0 o ca sl S = some (some o, S') ∧ fn_X9_named (nI n) 0 M = some M' ∧ BO o e n S S' M M' ∧ PZ S' M' b N ∧ (gI M' 0 22 = 0 → LNf o e n 0 S' M') := by
  have f1 : vp_in (nI n) 481 := (n_in (by omega)).mpr hn
  have f2 : (nI n).toNatClampNeg = n := n_cl (by omega)
  obtain ⟨S1, M1, q1, q2, q3, q4, q5, q6, q7, q8⟩ := cond2 ho hk hn h
  obtain ⟨S2, M2', r1, r2, r3, r4, r5⟩ := sgn2 (c := 61) (by decide) q7
  obtain ⟨r, S3, r', M3, w1, w2, w0, w3, w4, w5, w6, w7⟩ := numW (o := o) (e := e) (n := n) ho hn r5
  have k2 : gK S2 o = 3 := by rw [r3.2.2.2.2.1, q3.2.2.2.2.1]; exact hk
  have hb1 : BO o e n S S1 M M1 := ⟨CO_any q3, q4, ⟨q5 0 (by decide) (by decide) (by decide), q5 1 (by decide) (by decide) (by decide), q5 4 (by decide) (by decide) (by decide)⟩, by rw [q6 5 (by decide) (by decide) (by decide) (by decide)], by rw [q6 6 (by decide) (by decide) (by decide) (by decide)]⟩
  refine ⟨sI S3 o 8 r, sI M3 10 n r', ?_, ?_, (hb1.tr (BO_2 (by omega) r3 r4)).tr w3, w6, fun z => ?_⟩
  · unfold fn_X4_readBody_32 fn_X4_readBody_164
    rw [cd_t rfl, q1, bn_s, show fn_X4_takeSign 61 S1 = some S2 from r1, bn_s, w1, bn2_s, gd_t (by rw [w0]; exact k2), bn_s]
  · unfold fn_X9_named fn_X9_named_128 fn_X9_named_133 fn_X9_named_164
    rw [cd_f (by decide), cd_f (by decide), cd_t rfl, q2, bn_s, show fn_X9_wants 61 M1 = some M2' from r2, bn_s, w2, bn2_s, gd_t f1, f2, bn_s, cd_f (by decide)]
  · have zM1 : gI M1 0 22 = 0 := by
      rcases q7 with hx | hf
      · obtain ⟨_, _, _, _, z, _⟩ := hx; exact z
      · exfalso
        have hf2 : PF S2 M2' b N := by
          have hw : fn_X9_wants 61 M1 = some M1 := by
            unfold fn_X9_wants fn_X9_wants_24 fn_X9_isSign fn_X9_isSign_27 fn_X9_isSign_28
            rw [cd_f hf.2.2.2.1, gd_t (Or.inl rfl), bn2_s, cd_t rfl, PF_w (by decide) hf, bn_s]
          rw [show fn_X9_wants (nI 61) M1 = fn_X9_wants 61 M1 from rfl, hw] at r2
          injection r2 with r2
          subst r2
          rcases r5 with hx | q
          · obtain ⟨_, _, _, _, z, _⟩ := hx; exact absurd z hf.2.2.2.1
          · exact q
        have ht0 : fn_X9_takes 3 M2' = some (0, M2') := by unfold fn_X9_takes; rw [cd_f hf2.2.2.2.1]
        rw [ht0] at w2
        injection w2 with w2
        injection w2 with e1 e2
        rw [sI_ne (by decide), ← e2] at z
        exact hf2.2.2.2.1 z
    obtain ⟨v, lv, c1, c2, c3, c4⟩ := q8 zM1
    obtain ⟨d1, d2⟩ := w7 z
    have hM : ∀ c, c ≠ 0 → c ≠ 10 → gI (sI M3 10 n r') c = gI M1 c := fun c z0 z1 => (w5 c z0 z1).trans (r4.1 c z0)
    have hS : ∀ j, j ≠ 8 → gI (sI S3 o 8 r) o j = gI S1 o j := fun j hj => (w4 j hj).trans (by rw [r3.1 o (by omega)])
    have e7 : gI (sI M3 10 n r') 7 n = nI v := by rw [hM 7 (by decide) (by decide)]; exact c2
    have e11 : gI (sI M3 10 n r') 11 n = 0 := by rw [hM 11 (by decide) (by decide), q6 11 (by decide) (by decide) (by decide) (by decide)]; exact h11
    refine ⟨by rw [hS 5 (by decide), c1, e7], Or.inr (by rw [e7]; exact (n_in (by omega)).mpr lv), fun _ => ⟨?_, ?_⟩, fun _ => ⟨d1, d2⟩, ?_, Or.inl e11, fun z1 => absurd (e11.symm.trans z1) (by decide), fun z1 => absurd z1 (by decide), fun z1 => absurd z1 (by decide)⟩
    · rw [hS 6 (by decide), hM 8 (by decide) (by decide)]; exact c3
    · rw [hS 7 (by decide), hM 9 (by decide) (by decide)]; exact c4
    · rw [hS 9 (by decide), e11, q5 9 (by decide) (by decide) (by decide)]; exact h9
/-- from a fault no way back: sign, number -/
theorem PZ_back_sgn {c : Nat} {S' M' : HS} (h : PZ S M b N) (h2 : fn_X9_wants (nI c) M = some M') (hz : PZ S' M' b N) (z : gI M' 0 22 = 0) : gI M 0 22 = 0 := by
  rcases h with hx | hf
  · obtain ⟨_, _, _, _, z, _⟩ := hx; exact z
  · exfalso
    have hw : fn_X9_wants (nI c) M = some M := by
      unfold fn_X9_wants fn_X9_wants_24 fn_X9_isSign fn_X9_isSign_27 fn_X9_isSign_28
      rw [cd_f hf.2.2.2.1, gd_t (Or.inl rfl), bn2_s, cd_t rfl, PF_w (by decide) hf, bn_s]
    rw [hw] at h2
    injection h2 with h2
    subst h2
    exact hf.2.2.2.1 z
theorem back_num {r' : Int32} {M' : HS} (h2 : fn_X9_takes 3 M = some (r', M')) (z : gI M' 0 22 = 0) : gI M 0 22 = 0 := by
  by_cases c : gI M 0 22 = 0
  · exact c
  · exfalso
    have ht0 : fn_X9_takes 3 M = some (0, M) := by unfold fn_X9_takes; rw [cd_f c]
    rw [ht0] at h2
    injection h2 with h2
    injection h2 with e1 e2
    rw [← e2] at z
    exact c z
/-! a grade -/
theorem from2 (h : PZ S M b N) : ∃ S' M', fn_X4_takeFrom S = some S' ∧ (∀ x, (cd (gI M 0 22 = 0) (cd (gI M 0 20 = 0) (cd (gI M 0 21 = 7) (fn_X9_named_40 x M) (fn_X9_named_28 x M)) (fn_X9_named_28 x M)) (fn_X9_named_40 x M)) = fn_X9_named_51 x M') ∧ C2 S S' ∧ M2 M M' ∧ PZ S' M' b N := by
  unfold fn_X4_takeFrom fn_X9_named_40 fn_X9_named_28
  rcases h with hx | hf
  · have hx0 := hx
    obtain ⟨st, a1, a2, a3, a4, a5⟩ := hx
    have hi := word_iff a1 a2 (by decide : 7 < 8)
    have e3 : gI S 2 3 = gI M 0 19 := a1.2.2.2.1.trans a2.2.1.symm
    rcases tok_C a1 (by decide : 7 < 8) with ⟨q1, q2, q3⟩ | ⟨q1, q3⟩
    · obtain ⟨z1, z2⟩ := hi.mp ⟨q1, q2⟩
      obtain ⟨S', M', y1, y2, y3, y4, y5⟩ := adv2 hx0
      refine ⟨S', M', by rw [q3, bn2_s, cd_f z10, y1, bn_s], fun x => ?_, y3, y4, Or.inl y5⟩
      rw [cd_t a4, cd_t z1, cd_t (show gI M 0 21 = 7 from z2), y2, bn_s, cd_t a4]
    · obtain ⟨S', M', y1, y2, y3, y4, y5⟩ := ref2 (k := 1) (by decide) e3 (Or.inl hx0)
      refine ⟨S', M', by rw [q3, bn2_s, cd_t rfl, y1, bn_s], fun x => ?_, y3, y4, Or.inr y5⟩
      rw [cd_t a4, y2, bn_s]
      by_cases z1 : gI M 0 20 = 0
      · rw [cd_t z1, cd_f (show ¬ gI M 0 21 = 7 from fun z2 => q1 (hi.mpr ⟨z1, z2⟩))]
      · rw [cd_f z1]
  · obtain ⟨st, a1⟩ := hf.1
    have hM : ∀ x, (cd (gI M 0 22 = 0) (cd (gI M 0 20 = 0) (cd (gI M 0 21 = 7) (cd (gI M 0 22 = 0) (bn (fn_X9_next M) fun S1 => fn_X9_named_51 x S1) (fn_X9_named_51 x M)) (bn (fn_X9_wrong 1 (gI M 0 19) M) fun S1 => fn_X9_named_51 x S1)) (bn (fn_X9_wrong 1 (gI M 0 19) M) fun S1 => fn_X9_named_51 x S1)) (cd (gI M 0 22 = 0) (bn (fn_X9_next M) fun S1 => fn_X9_named_51 x S1) (fn_X9_named_51 x M))) = fn_X9_named_51 x M := fun x => by
      rw [cd_f hf.2.2.2.1, cd_f hf.2.2.2.1]
    rcases tok_C a1 (by decide : 7 < 8) with ⟨q1, q2, q3⟩ | ⟨q1, q3⟩
    · obtain ⟨S', y1, y2, y3, y4, y5⟩ := advF a1
      exact ⟨S', M, by rw [q3, bn2_s, cd_f z10, y1, bn_s], hM, y2, M2.rf, Or.inr (PF_C hf ⟨_, y5⟩ y3 y4)⟩
    · exact ⟨S, M, by rw [q3, bn2_s, cd_t rfl, PF_r (by decide) hf, bn_s], hM, C2.rf, M2.rf, Or.inr hf⟩
theorem body_grade {o e n ca sl : Nat} (ho : 65 ≤ o) (hn : n < 481) (hk : gK S o = 3) (h5 : gI S o 5 = -1) (h9 : gI S o 9 = 0) (h7 : gI M 7 n = -1) (h11 : gI M 11 n = 0) (h : PZ S M b N) : ∃ S' M', fn_X4_readBody_32 1 o ca sl S = some (some o, S') ∧ fn_X9_named (nI n) 1 M = some M' ∧ BO o e n S S' M M' ∧ PZ S' M' b N ∧ (gI M' 0 22 = 0 → LNf o e n 1 S' M') := by
  have f1 : vp_in (nI n) 481 := (n_in (by omega)).mpr hn
  have f2 : (nI n).toNatClampNeg = n := n_cl (by omega)
  obtain ⟨S1, M1, q1, q2, q3, q4, q5⟩ := from2 h
  obtain ⟨r, S3, r', M3, w1, w2, w0, w3, w4, w5, w6, w7⟩ := numW (o := o) (e := e) (n := n) ho hn q5
  refine ⟨sI S3 o 8 r, sI M3 10 n r', ?_, ?_, (BO_2 (by omega) q3 q4).tr w3, w6, fun z => ?_⟩
  · unfold fn_X4_readBody_32 fn_X4_readBody_164
    rw [cd_f (by decide), cd_t rfl, q1, bn_s, w1, bn2_s, gd_t (by rw [w0, q3.2.2.2.2.1]; exact hk), bn_s]
  · unfold fn_X9_named
    rw [cd_t rfl, q2]
    unfold fn_X9_named_51 fn_X9_named_197
    rw [w2, bn2_s, gd_t f1, f2, bn_s]
  · obtain ⟨d1, d2⟩ := w7 z
    have hM : ∀ c, c ≠ 0 → c ≠ 10 → gI (sI M3 10 n r') c = gI M c := fun c z0 z1 => (w5 c z0 z1).trans (q4.1 c z0)
    have hS : ∀ j, j ≠ 8 → gI (sI S3 o 8 r) o j = gI S o j := fun j hj => (w4 j hj).trans (by rw [q3.1 o (by omega)])
    have e7 : gI (sI M3 10 n r') 7 n = -1 := by rw [hM 7 (by decide) (by decide)]; exact h7
    have e11 : gI (sI M3 10 n r') 11 n = 0 := by rw [hM 11 (by decide) (by decide)]; exact h11
    exact ⟨by rw [hS 5 (by decide), h5, e7], Or.inl e7, fun z1 => absurd e7 z1, fun _ => ⟨d1, d2⟩, by rw [hS 9 (by decide), h9, e11], Or.inl e11, fun z1 => absurd (e11.symm.trans z1) (by decide), fun z1 => absurd z1 (by decide), fun z1 => absurd z1 (by decide)⟩
/-! a scale -/
theorem body_scale {o e n ca sl : Nat} (ho : 65 ≤ o) (he : 65 ≤ e) (hoe : o ≠ e) (hn : n < 480) (hk : gK S o = 3) (hr : gR S o 2 = some e) (hke : gK S e = 21) (hne : gN S e = 8) (h3 : gI S o 3 = 0) (h5 : gI S o 5 = -1) (h9 : gI S o 9 = 0) (h7 : gI M 7 n = -1) (h11 : gI M 11 n = 0) (h : PZ S M b N) : ∃ S' M', fn_X4_readBody_32 2 o ca sl S = some (some o, S') ∧ fn_X9_named (nI n) 2 M = some M' ∧ BO o e n S S' M M' ∧ PZ S' M' b N ∧ (gI M' 0 22 = 0 → LNf o e n 2 S' M') := by
  have f1 : vp_in (nI n) 481 := (n_in (by omega)).mpr (by omega)
  have f2 : (nI n).toNatClampNeg = n := n_cl (by omega)
  obtain ⟨S1, M1, r1, r2, r3, r4, r5⟩ := sgn2 (c := 58) (by decide) h
  have hC : fn_X4_readBody_32 2 o ca sl S = bn (fn_X4_readScale_4 hFuel o 1 (nI 0) S1) (fun S13 => some (some o, S13)) := by
    unfold fn_X4_readBody_32 fn_X4_readBody_164 fn_X4_readScale
    rw [cd_f (by decide), cd_f (by decide), cd_t rfl, show fn_X4_takeSign 58 S = some S1 from r1, bn_s]
    rfl
  have hR : fn_X9_named (nI n) 2 M = bn (fn_X9_scaleNumber (nI n) (sI M1 13 n 0)) (fun S4 => fn_X9_named_88 hFuel (nI n) S4) := by
    unfold fn_X9_named
    rw [cd_f (by decide), cd_t rfl, show fn_X9_wants 58 M = some M1 from r2, bn_s, gd_t f1, f2, bn_s]
  rw [hC, hR]
  have hz1 : PZ S1 (sI M1 13 n 0) b N := PZ_m (by decide) (by decide) r5
  have hbo : BO o e n S S1 M (sI M1 13 n 0) := ⟨r3.o, r4.o.tr (MO_s (by omega) (by decide)), ⟨by rw [r3.1 o (by omega)], by rw [r3.1 o (by omega)], by rw [r3.1 o (by omega)]⟩, by rw [sI_ne (by decide), r4.1 5 (by decide)], by rw [sI_ne (by decide), r4.1 6 (by decide)]⟩
  rcases hz1 with hx | hf
  · obtain ⟨S', M', z1, z2, z3, z4, z5, z6, z7, z8⟩ := scl ho he hoe hn 8 0 hFuel hFuel S1 (sI M1 13 n 0) rfl (by decide) (by decide) (by rw [r3.2.2.2.2.1]; exact hk) (by rw [r3.2.2.1]; exact hr) (by rw [r3.2.2.2.2.1]; exact hke) (by rw [r3.2.2.2.2.2.1]; exact hne) hx ⟨by rw [r3.1 o (by omega)]; exact h3, by rw [sI_eq]; rfl, fun j hj => absurd hj (Nat.not_lt_zero _)⟩
    refine ⟨S', M', by rw [z1, bn_s], z2, hbo.tr ⟨z3, z4, ⟨z5 0 (by decide), z5 1 (by decide), z5 4 (by decide)⟩, by rw [z6 5 (by decide) (by decide) (by decide)], by rw [z6 6 (by decide) (by decide) (by decide)]⟩, z7, fun z => ?_⟩
    obtain ⟨k', l1, l2, l3⟩ := z8 z
    have e7 : gI M' 7 n = -1 := by rw [z6 7 (by decide) (by decide) (by decide), sI_ne (by decide), r4.1 7 (by decide)]; exact h7
    have e11 : gI M' 11 n = 0 := by rw [z6 11 (by decide) (by decide) (by decide), sI_ne (by decide), r4.1 11 (by decide)]; exact h11
    have hS : ∀ j, j ≠ 3 → gI S' o j = gI S o j := fun j hj => (z5 j hj).trans (by rw [r3.1 o (by omega)])
    exact ⟨by rw [hS 5 (by decide), h5, e7], Or.inl e7, fun z1 => absurd e7 z1, fun z1 => absurd rfl z1, by rw [hS 9 (by decide), h9, e11], Or.inl e11, fun z1 => absurd (e11.symm.trans z1) (by decide), fun z1 => absurd z1 (by decide), fun _ => ⟨k', l1, l2, l3⟩⟩
  · have hf6 : gI S1 2 6 ≠ 0 := by rw [hf.2.2.1]; exact hf.2.2.2.1
    refine ⟨S1, sI M1 13 n 0, ?_, ?_, hbo, Or.inr hf, fun z => absurd z hf.2.2.2.1⟩
    · rw [show hFuel = 4999 + 1 from rfl]
      conv => lhs; unfold fn_X4_readScale_4
      unfold fn_X4_readScale_87
      rw [cd_f (by decide), cd_f z10, cd_f hf6, bn_s]
    · unfold fn_X9_scaleNumber fn_X9_scaleNumber_35
      have ht0 : fn_X9_takes 3 (sI M1 13 n 0) = some (0, sI M1 13 n 0) := by unfold fn_X9_takes; rw [cd_f hf.2.2.2.1]
      rw [cd_f hf.2.2.2.1, ht0, bn2_s, cd_f hf.2.2.2.1, bn_s]
      exact sign44 hf.2.2.2.1 4999 _
/-! a step, a gap -/
theorem body_num {o e n k ca sl : Nat} (hkk : k = 3 ∨ k = 4) (ho : 65 ≤ o) (hn : n < 481) (hk : gK S o = 3) (h5 : gI S o 5 = -1) (h9 : gI S o 9 = 0) (h7 : gI M 7 n = -1) (h11 : gI M 11 n = 0) (h : PZ S M b N) : ∃ S' M', fn_X4_readBody_32 (nI k) o ca sl S = some (some o, S') ∧ (∀ x1 x2, (cd (nI k = 3) (cd (gI M 0 20 = 3) (cd (gI M 0 21 = 0) (bn (fn_X9_wrong 2 (gI M 0 19) M) (fun S3 => fn_X9_line_226 x1 x2 (nI n) S3)) (fn_X9_line_226 x1 x2 (nI n) M)) (fn_X9_line_226 x1 x2 (nI n) M)) (fn_X9_line_226 x1 x2 (nI n) M)) = fn_X9_line_264 x1 x2 (nI n) M') ∧ BO o e n S S' M M' ∧ PZ S' M' b N ∧ (gI M' 0 22 = 0 → LNf o e n k S' M') := by
  have f1 : vp_in (nI n) 481 := (n_in (by omega)).mpr hn
  have f2 : (nI n).toNatClampNeg = n := n_cl (by omega)
  have h226 : ∀ (M M' : HS) (r' : Int32) (x1 x2 : Int32), fn_X9_takes 3 M = some (r', M') → fn_X9_line_226 x1 x2 (nI n) M = fn_X9_line_264 x1 x2 (nI n) (sI M' 10 n r') := fun M M' r' x1 x2 ht => by
    unfold fn_X9_line_226
    rw [ht, bn2_s, gd_t f1, f2, bn_s]
  obtain ⟨r, S3, r', M3, w1, w2, w0, w3, w4, w5, w6, w7⟩ := numW (o := o) (e := e) (n := n) ho hn h
  have k3 : gK S3 o = 3 := by rw [w0]; exact hk
  have hLN : gI (sI M3 10 n r') 0 22 = 0 → (k = 3 → gI (sI M3 10 n r') 10 n ≠ 0) → LNf o e n k (sI S3 o 8 r) (sI M3 10 n r') := by
    intro z hne
    obtain ⟨d1, d2⟩ := w7 z
    have e7 : gI (sI M3 10 n r') 7 n = -1 := by rw [w5 7 (by decide) (by decide)]; exact h7
    have e11 : gI (sI M3 10 n r') 11 n = 0 := by rw [w5 11 (by decide) (by decide)]; exact h11
    exact ⟨by rw [w4 5 (by decide), h5, e7], Or.inl e7, fun z1 => absurd e7 z1, fun _ => ⟨d1, d2⟩, by rw [w4 9 (by decide), h9, e11], Or.inl e11, fun z1 => absurd (e11.symm.trans z1) (by decide), hne, fun z1 => by omega⟩
  rcases hkk with rfl | rfl
  · have hC : fn_X4_readBody_32 (nI 3) o ca sl S = bn (cd (gI (sI S3 o 8 r) o 8 = 0) (bn (fn_X4_refuse 2 (gI S 2 3) (sI S3 o 8 r)) (fun S7 => some S7)) (some (sI S3 o 8 r))) (fun S14 => some (some o, S14)) := by
      unfold fn_X4_readBody_32 fn_X4_readBody_164 fn_X4_readStepDays fn_X4_readStepDays_26
      rw [cd_f (by decide), cd_f (by decide), cd_f (by decide), cd_t (show nI 3 = 3 from rfl), bn_s, w1, bn2_s, gd_t k3, bn_s, gd_t (show gK (sI S3 o 8 r) o = 3 from k3)]
    rw [hC, sI_eq]
    have h0 := h
    rcases h with hx | hf
    · have hx0 := hx
      obtain ⟨st, a1, a2, a3, a4, a5⟩ := hx
      have e3 : gI S 2 3 = gI M 0 19 := a1.2.2.2.1.trans a2.2.1.symm
      have hni := num_iff a1 a2
      by_cases c : gI M 0 20 = 3 ∧ gI M 0 21 = 0
      · -- a step of 0
        have hk2 := hni.mpr c.1
        have hd := tok_D a1 hk2
        have ht := te_b (b := b) a1.2.1
        have hva : gI M 0 21 = nI (rnum b (te b N st - st) st 0) := by
          rcases a2.2.2.2 with ⟨v1, v2⟩ | ⟨v1, v2, v3, v4⟩ | ⟨v1, v2, v3, v4⟩ | ⟨v1, v2, v3, v4⟩ | ⟨v1, v2, v3, v4, v5, v6⟩
          · exact absurd hd.1 v1
          · exact absurd ((isD_B hd.2.1).2.symm.trans v2) (by decide)
          · exact absurd ((isD_B hd.2.1).2.symm.trans v2) (by decide)
          · exact v4
          · exact absurd (v3.symm.trans hd.2.1) (by decide)
        have htk : fn_X9_takes 3 M = bn (fn_X9_next M) (fun S1 => some (0, S1)) := by
          unfold fn_X9_takes fn_X9_takes_56
          rw [cd_t a4, cd_t c.1, bn_s, cd_t rfl, c.2, cd_t (by decide)]
        obtain ⟨S5, M5, y1, y2, y3, y4, y5⟩ := adv2 hx0
        rw [htk, y2, bn_s] at w2
        injection w2 with w2
        injection w2 with e1 e2
        have hz3 : gI M3 0 22 = 0 := by rw [← e2]; obtain ⟨_, _, _, _, z, _⟩ := y5; exact z
        have hr0 : r = 0 := by
          have := (w7 (by rw [sI_ne (by decide)]; exact hz3)).1
          rw [sI_eq, sI_eq, ← e1] at this; exact this
        have hpx : PX (sI S3 o 8 r) (sI M3 10 n r') b N := PZ_x w6 (by rw [sI_ne (by decide)]; exact hz3)
        -- the class refuses behind, the reference ahead
        obtain ⟨S6, u1, u2, u3, u4, u5, u6⟩ := refF (S := sI S3 o 8 r) (b := b) (N := N) (k := 2) (x := gI S 2 3) (by decide)
        obtain ⟨M6, v1, v2, v3, v4, v5⟩ := wrongM (M := M) (k := 2) (x := gI M 0 19) (by decide)
        have ht6 : fn_X9_takes 3 M6 = some (0, M6) := by unfold fn_X9_takes; rw [cd_f v3]
        have hS6 : gI (sI S3 o 8 r) 2 6 = 0 := by obtain ⟨_, _, _, z, _, _⟩ := hpx; exact z
        refine ⟨S6, sI M6 10 n 0, ?_, fun x1 x2 => ?_, ⟨w3.1.tr u2.o, v2.o.tr (MO_s (by omega) (by decide)), ?_, ?_, ?_⟩, Or.inr ⟨?_, ?_, ?_, ?_, ?_⟩, fun z => ?_⟩
        · rw [cd_t hr0, u1, bn_s, bn_s]
        · rw [cd_t (show nI 3 = 3 from rfl), cd_t c.1, cd_t c.2, v1, bn_s, h226 M6 M6 0 x1 x2 ht6]
        · rw [u2.1 o (by omega)]; exact w3.2.2.1
        · rw [sI_ne (by decide), v2.1 5 (by decide)]
        · rw [sI_ne (by decide), v2.1 6 (by decide)]
        · obtain ⟨st', z, _⟩ := hpx; exact ⟨st', u3 st' z⟩
        · have := (a2.1.keep v2)
          unfold ML at *
          rw [sI_ne (by decide), sI_ne (by decide)]; exact this
        · rw [sI_ne (by decide), (u5 hS6).1, (v4 a4).1]
        · rw [sI_ne (by decide)]; exact v3
        · rw [sI_ne (by decide), (u5 hS6).2, (v4 a4).2]; exact e3
        · rw [sI_ne (by decide)] at z; exact absurd z v3
      · -- any other number
        have hM : ∀ x1 x2, (cd (nI 3 = 3) (cd (gI M 0 20 = 3) (cd (gI M 0 21 = 0) (bn (fn_X9_wrong 2 (gI M 0 19) M) (fun S3 => fn_X9_line_226 x1 x2 (nI n) S3)) (fn_X9_line_226 x1 x2 (nI n) M)) (fn_X9_line_226 x1 x2 (nI n) M)) (fn_X9_line_226 x1 x2 (nI n) M)) = fn_X9_line_264 x1 x2 (nI n) (sI M3 10 n r') := fun x1 x2 => by
          rw [cd_t (show nI 3 = 3 from rfl), h226 M M3 r' x1 x2 w2]
          by_cases c1 : gI M 0 20 = 3
          · rw [cd_t c1, cd_f (fun z => c ⟨c1, z⟩)]
          · rw [cd_f c1]
        have hr' : gI M3 0 22 = 0 → r' ≠ 0 := fun z => by
          by_cases c1 : gI M 0 20 = 3
          · have hne : ¬ gI M 0 21 = 0 := fun z => c ⟨c1, z⟩
            have htk : fn_X9_takes 3 M = cd (gI M 0 21 ≤ 9999) (bn (fn_X9_next M) (fun S1 => some (gI M 0 21, S1))) (bn (fn_X9_wrong 2 (gI M 0 19) M) (fun S2 => some (0, S2))) := by
              unfold fn_X9_takes fn_X9_takes_56
              rw [cd_t a4, cd_t c1, bn_s, cd_t rfl]
            rw [htk] at w2
            by_cases c2 : gI M 0 21 ≤ 9999
            · obtain ⟨S5, M5, y1, y2, y3, y4, y5⟩ := adv2 hx0
              rw [cd_t c2, y2, bn_s] at w2
              injection w2 with w2
              injection w2 with e1 e2
              rw [← e1]; exact hne
            · obtain ⟨M6, v1, v2, v3, v4, v5⟩ := wrongM (M := M) (k := 2) (x := gI M 0 19) (by decide)
              rw [cd_f c2, v1, bn_s] at w2
              injection w2 with w2
              injection w2 with e1 e2
              rw [← e2] at z; exact absurd z v3
          · obtain ⟨M6, v1, v2, v3, v4, v5⟩ := wrongM (M := M) (k := 1) (x := gI M 0 19) (by decide)
            have htk : fn_X9_takes 3 M = some (0, M6) := by
              unfold fn_X9_takes
              rw [cd_t a4, cd_f c1, v1, bn_s]
            rw [htk] at w2
            injection w2 with w2
            injection w2 with e1 e2
            rw [← e2] at z; exact absurd z v3
        by_cases hr0 : r = 0
        · -- only behind a fault
          have hz : ¬ gI M3 0 22 = 0 := fun z => by
            have := (w7 (by rw [sI_ne (by decide)]; exact z)).1
            rw [sI_eq, sI_eq, hr0] at this
            exact hr' z this.symm
          have hf2 : PF (sI S3 o 8 r) (sI M3 10 n r') b N := by
            rcases w6 with w6 | w6
            · obtain ⟨_, _, _, _, z, _⟩ := w6
              rw [sI_ne (by decide)] at z; exact absurd z hz
            · exact w6
          exact ⟨sI S3 o 8 r, sI M3 10 n r', by rw [cd_t hr0, PF_r (by decide) hf2, bn_s, bn_s], hM, w3, w6, fun z => absurd z hf2.2.2.2.1⟩
        · exact ⟨sI S3 o 8 r, sI M3 10 n r', by rw [cd_f hr0, bn_s], hM, w3, w6, fun z => hLN z (fun _ => by rw [sI_eq]; exact hr' (by rw [sI_ne (by decide)] at z; exact z))⟩
    · have ht0 : fn_X9_takes 3 M = some (0, M) := by unfold fn_X9_takes; rw [cd_f hf.2.2.2.1]
      have w2' := w2
      rw [ht0] at w2'
      injection w2' with w2'
      injection w2' with e1 e2
      have hf2 : PF (sI S3 o 8 r) (sI M3 10 n r') b N := by
        rcases w6 with w6 | w6
        · obtain ⟨_, _, _, _, z, _⟩ := w6
          rw [sI_ne (by decide), ← e2] at z; exact absurd z hf.2.2.2.1
        · exact w6
      refine ⟨sI S3 o 8 r, sI M3 10 n r', ?_, fun x1 x2 => ?_, w3, w6, fun z => absurd z hf2.2.2.2.1⟩
      · rw [PF_r (by decide) hf2, bn_s]
        by_cases c : r = 0
        · rw [cd_t c, bn_s]
        · rw [cd_f c, bn_s]
      · rw [cd_t (show nI 3 = 3 from rfl), PF_w (by decide) hf, bn_s, h226 M M3 r' x1 x2 w2]
        by_cases c1 : gI M 0 20 = 3
        · rw [cd_t c1]
          by_cases c2 : gI M 0 21 = 0
          · exact cd_t c2
          · exact cd_f c2
        · exact cd_f c1
  · refine ⟨sI S3 o 8 r, sI M3 10 n r', ?_, fun x1 x2 => ?_, w3, w6, fun z => hLN z (fun z1 => by omega)⟩
    · unfold fn_X4_readBody_32 fn_X4_readBody_164
      rw [cd_f (by decide), cd_f (by decide), cd_f (by decide), cd_f (by decide), cd_t (show nI 4 = 4 from rfl), w1, bn2_s, gd_t k3, bn_s]
    · rw [cd_f (by decide), h226 M M3 r' x1 x2 w2]
end BODY
