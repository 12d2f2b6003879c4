/-! scales, words, numbers of a line -/
section PARTS2
variable {b : Nat → Nat} {N : Nat}
theorem word_iff {S M : HS} {st w : Nat} (hC : CT S b N st) (hM : MTk M b N st) (hw : w < 8) : (kd b N st = 257 ∧ wm b w st (te b N st)) ↔ (gI M 0 20 = 0 ∧ gI M 0 21 = nI w) := by
  have hk := (kd_L hC.1 hC.2.1 hC.2.2.1).1
  have hwl := (w_ch w hw).2.1
  rw [hk]
  rcases hM.2.2.2 with ⟨v1, v2⟩ | ⟨v1, v2, v3, v4⟩ | ⟨v1, v2, v3, v4⟩ | ⟨v1, v2, v3, v4⟩ | ⟨v1, v2, v3, v4, v5, v6⟩
  · rw [v2]; exact ⟨fun z => absurd z.1.1 v1, fun z => absurd z.1 (by decide)⟩
  · refine ⟨fun z => ?_, fun z => ?_⟩
    · have := z.2.1; omega
    · rcases v4 with ⟨_, q, _⟩ | ⟨_, q, _⟩ | ⟨_, _, q⟩ <;> rw [q] at z <;> exact absurd z.1 (by decide)
  · rcases v4 with ⟨x, lx, hx, q1, q2⟩ | ⟨hx, q⟩
    · refine ⟨fun z => ⟨q1, by rw [q2, wm_one lx hw hx z.2]⟩, fun z => ?_⟩
      have : x = w := by
        have := z.2; rw [q2, n_eq (by omega) (by omega)] at this; exact this
      subst this
      exact ⟨⟨v1, v2⟩, hx⟩
    · refine ⟨fun z => absurd z.2 (hx w hw), fun z => ?_⟩
      rw [q] at z; exact absurd z.1 (by decide)
  · rw [v3]; exact ⟨fun z => (by rw [(isD_B v2).2] at z; cases z.1.2), fun z => absurd z.1 (by decide)⟩
  · refine ⟨fun z => (by rw [v2] at z; cases z.1.2), fun z => ?_⟩
    rcases v6 with ⟨_, q⟩ | ⟨_, q⟩ <;> rw [q] at z <;> exact absurd z.1 (by decide)
/-! scales -/
def SKn (o e n k : Nat) (S M : HS) : Prop := gI S o 3 = nI k ∧ gI M 13 n = nI k ∧ ∀ j, j < k → gI S e j = gI M 12 (8 * n + j) ∧ vp_in (gI M 12 (8 * n + j)) 10000
theorem addS {S : HS} {o e k : Nat} {r : Int32} (hk : gK S o = 3) (hr : gR S o 2 = some e) (hke : gK S e = 21) (hne : gN S e = 8) (h3 : gI S o 3 = nI k) (lk : k ≤ 8) (hoe : o ≠ e) : fn_X2_addToScale o r S = some (if k < 8 then sI (sI S e k r) o 3 (nI (k + 1)) else S) := by
  unfold fn_X2_addToScale fn_X2_addToScale_32
  simp only [hk, hr, gd_T, bn_s, hke, hne, h3]
  by_cases c : k < 8
  · have f1 : ¬ nI 8 ≤ nI k := by rw [n_le (by omega) (by omega)]; omega
    have f2 : vp_in (nI k) 8 := (n_in (by omega)).mpr c
    have f3 : (nI k).toNatClampNeg = k := n_cl (by omega)
    have f4 : gI (sI S e k r) o 3 = nI k := by rw [sI_ne hoe]; exact h3
    simp only [f1, f2, f3, gK_sI, hk, gd_T, cd_F, f4, show nI k + 1 = nI (k + 1) by rw [n_lit, n_add]]
    rw [if_pos c]
  · rw [if_neg c, cd_t (by rw [n_le (by omega) (by omega)]; omega)]
theorem scaleF {S M : HS} {o m k : Nat} (lk : k < 1000) (h : PF S M b N) : ∃ T, (cd (gI S 2 5 = 44) (fn_X4_readScale_72 (fn_X4_readScale_4 (m + 1)) o (nI k) 1 S) (fn_X4_readScale_72 (fn_X4_readScale_4 (m + 1)) o (nI k) 0 S)) = some T ∧ C2 S T ∧ PF T M b N := by
  have h88 : ∀ (T : HS) (y : Int32), gI T 2 6 ≠ 0 → fn_X4_readScale_4 (m + 1) o y (nI (k + 1)) T = some T := by
    intro T y hf
    conv => lhs; unfold fn_X4_readScale_4
    unfold fn_X4_readScale_87
    rw [cd_f (by rw [n_lit, n_le (by omega) (by omega)]; omega)]
    by_cases c : y = 0
    · exact cd_t c
    · exact (cd_f c).trans (cd_f hf)
  have t : nI k + 1 = nI (k + 1) := by rw [n_lit, n_add]
  have hf6 : gI S 2 6 ≠ 0 := by rw [h.2.2.1]; exact h.2.2.2.1
  unfold fn_X4_readScale_72 fn_X4_readScale_81
  by_cases c : gI S 2 5 = 44
  · obtain ⟨st, a1⟩ := h.1
    obtain ⟨S', q1, q2, q3, q4, q5⟩ := advF a1
    refine ⟨S', ?_, q2, PF_C h ⟨_, q5⟩ q3 q4⟩
    rw [cd_t c, cd_f z10, q1, bn_s, bn_s, t]
    exact h88 S' 1 (by rw [q3]; exact hf6)
  · refine ⟨S, ?_, C2.rf, h⟩
    rw [cd_f c, cd_t rfl, bn_s, t]
    exact h88 S 0 hf6
theorem sign44 {M : HS} (h : gI M 0 22 ≠ 0) (m : Nat) (n : Int32) : fn_X9_named_88 (m + 1) n M = some M := by
  conv => lhs; unfold fn_X9_named_88
  unfold fn_X9_isSign fn_X9_isSign_27 fn_X9_isSign_28 fn_X9_named_197
  rw [cd_f h, gd_t (Or.inl rfl), bn2_s, cd_t rfl]
theorem scl {o e n : Nat} (ho : 65 ≤ o) (he : 65 ≤ e) (hoe : o ≠ e) (hn : n < 480) : ∀ (i k m m' : Nat) (S M : HS), k + i = 8 → i + 2 < m → i + 2 < m' → gK S o = 3 → gR S o 2 = some e → gK S e = 21 → gN S e = 8 → PX S M b N → SKn o e n k S M →
    ∃ S' M', fn_X4_readScale_4 m o 1 (nI k) S = some S' ∧ bn (fn_X9_scaleNumber (nI n) M) (fun S4 => fn_X9_named_88 m' (nI n) S4) = some M' ∧ CO o e S S' ∧ MO n M M' ∧ (∀ j, j ≠ 3 → gI S' o j = gI S o j) ∧ (∀ c, c ≠ 0 → c ≠ 12 → c ≠ 13 → gI M' c = gI M c) ∧ PZ S' M' b N ∧ (gI M' 0 22 = 0 → ∃ k', 1 ≤ k' ∧ k' ≤ 8 ∧ SKn o e n k' S' M') := by
  have f1 : vp_in (nI n) 481 := (n_in (by omega)).mpr (by omega)
  have f2 : (nI n).toNatClampNeg = n := n_cl (by omega)
  -- a number is wanting or too large: both end
  have hbad : ∀ (k m m' : Nat) (S M T M1 : HS) (r : Int32), k ≤ 8 → gK S o = 3 → gR S o 2 = some e → gK S e = 21 → gN S e = 8 → gI S o 3 = nI k → C2 S T → M2 M M1 → PF T M1 b N → ∃ S' M', (gd (gK T o = 3) (bn (fn_X2_addToScale o r T) fun S4 => cd (gI S4 2 5 = 44) (fn_X4_readScale_72 (fn_X4_readScale_4 (m + 1)) o (nI k) 1 S4) (fn_X4_readScale_72 (fn_X4_readScale_4 (m + 1)) o (nI k) 0 S4))) = some S' ∧ fn_X9_named_88 (m' + 1) (nI n) M1 = some M' ∧ CO o e S S' ∧ MO n M M' ∧ (∀ j, j ≠ 3 → gI S' o j = gI S o j) ∧ (∀ c, c ≠ 0 → c ≠ 12 → c ≠ 13 → gI M' c = gI M c) ∧ PZ S' M' b N ∧ (gI M' 0 22 = 0 → ∃ k', 1 ≤ k' ∧ k' ≤ 8 ∧ SKn o e n k' S' M') := by
    intro k m m' S M T M1 r lk g1 g2 g3 g4 g5 hc hm hf
    have k1 : gK T o = 3 := by rw [hc.2.2.2.2.1]; exact g1
    have k2 : gR T o 2 = some e := by rw [hc.2.2.1]; exact g2
    have k3 : gK T e = 21 := by rw [hc.2.2.2.2.1]; exact g3
    have k4 : gN T e = 8 := by rw [hc.2.2.2.2.2.1]; exact g4
    have k5 : gI T o 3 = nI k := by rw [hc.1 o (by omega)]; exact g5
    have hpf : PF (if k < 8 then sI (sI T e k r) o 3 (nI (k + 1)) else T) M1 b N := by
      split
      · exact PF_sI (by omega) (by omega) (PF_sI (by omega) (by omega) hf)
      · exact hf
    have hco : CO o e S (if k < 8 then sI (sI T e k r) o 3 (nI (k + 1)) else T) := by
      split
      · exact (hc.o.tr (CO_e (by omega))).tr (CO_o (by omega))
      · exact hc.o
    have hoj : ∀ j, j ≠ 3 → gI (if k < 8 then sI (sI T e k r) o 3 (nI (k + 1)) else T) o j = gI S o j := fun j hj => by
      split
      · rw [sI_nk hj, sI_ne hoe, hc.1 o (by omega)]
      · rw [hc.1 o (by omega)]
    obtain ⟨T', u1, u2, u3⟩ := scaleF (o := o) (m := m) (by omega : k < 1000) hpf
    refine ⟨T', M1, ?_, sign44 hf.2.2.2.1 _ _, hco.tr u2.o, hm.o, fun j hj => ?_, fun c z0 _ _ => hm.1 c z0, Or.inr u3, fun z => absurd z hf.2.2.2.1⟩
    · rw [gd_t k1, addS k1 k2 k3 k4 k5 lk hoe, bn_s]; exact u1
    · rw [u2.1 o (by omega)]; exact hoj j hj
  intro i
  induction i with
  | zero =>
    intro k m m' S M e1 hm hm' g1 g2 g3 g4 hx hs
    obtain ⟨m, rfl⟩ : ∃ q, m = q + 1 + 1 := ⟨m - 2, by omega⟩
    obtain ⟨m', rfl⟩ : ∃ q, m' = q + 1 := ⟨m' - 1, by omega⟩
    have e1 : k = 8 := by omega
    subst e1
    have hx0 := hx
    obtain ⟨st, a1, a2, a3, a4, a5⟩ := hx
    have hni := num_iff a1 a2
    have e3 : gI S 2 3 = gI M 0 19 := a1.2.2.2.1.trans a2.2.1.symm
    have hM13 : gI M 13 n = 8 := hs.2.1
    conv => enter [1, S', 1, M', 1]; unfold fn_X4_readScale_4
    unfold fn_X4_readScale_50 fn_X9_scaleNumber fn_X9_scaleNumber_35
    simp only [f1, f2, gd_T]
    rw [cd_f (by decide), cd_f z10, cd_t a3, cd_t a4]
    by_cases c : gI S 2 5 = 258
    · rw [cd_t c, gd_t g1, hs.1, cd_f (by decide), cd_t (hni.mp c), hM13, cd_t rfl]
      obtain ⟨S1, M1, q1, q2, q3, q4, q5⟩ := ref2 (k := 2) (by decide) e3 (Or.inl hx0)
      obtain ⟨r, T, w1, w2, w3⟩ := PF_num q5
      have ht0 : fn_X9_takes 3 M1 = some (0, M1) := by unfold fn_X9_takes; rw [cd_f q5.2.2.2.1]
      rw [q1, bn_s, w1, bn2_s, q2, bn_s, ht0, bn2_s, cd_f q5.2.2.2.1, bn_s]
      exact hbad 8 m m' S M T M1 r (Nat.le_refl _) g1 g2 g3 g4 hs.1 (q3.tr w2) q4 w3
    · rw [cd_f c, cd_f (fun z => c (hni.mpr z))]
      obtain ⟨r, T, r', M1, w1, w2, w3, w4, w5, w6⟩ := num2 (Or.inl hx0)
      have hM1 : PF T M1 b N := by
        rcases w5 with w5 | w5
        · exfalso
          have hz : gI M1 0 22 = 0 := by obtain ⟨_, _, _, _, z, _⟩ := w5; exact z
          have : fn_X9_takes 3 M = bn (fn_X9_wrong 1 (gI M 0 19) M) (fun S3 => some (0, S3)) := by unfold fn_X9_takes; rw [cd_t a4, cd_f (fun z => c (hni.mpr z))]
          obtain ⟨S1, M1', y1, y2, y3, y4, y5⟩ := ref2 (k := 1) (by decide) e3 (Or.inl hx0)
          rw [this, y2, bn_s] at w2
          injection w2 with w2
          injection w2 with e1 e2
          rw [← e2] at hz
          exact y5.2.2.2.1 hz
        · exact w5
      rw [w1, bn2_s, w2, bn2_s, cd_f hM1.2.2.2.1, bn_s]
      exact hbad 8 m m' S M T M1 r (Nat.le_refl _) g1 g2 g3 g4 hs.1 w3 w4 hM1
  | succ i ih =>
    intro k m m' S M e1 hm hm' g1 g2 g3 g4 hx hs
    obtain ⟨m, rfl⟩ : ∃ q, m = q + 1 + 1 := ⟨m - 2, by omega⟩
    obtain ⟨m', rfl⟩ : ∃ q, m' = q + 1 := ⟨m' - 1, by omega⟩
    have hx0 := hx
    obtain ⟨st, a1, a2, a3, a4, a5⟩ := hx
    have hni := num_iff a1 a2
    have lk : k < 8 := by omega
    have hM13 : ¬ gI M 13 n = 8 := by rw [hs.2.1, n_lit, n_eq (by omega) (by omega)]; omega
    have hC : fn_X4_readScale_4 (m + 1 + 1) o 1 (nI k) S = fn_X4_readScale_50 (fn_X4_readScale_4 (m + 1)) o (nI k) S := by
      conv => lhs; unfold fn_X4_readScale_4
      rw [cd_f (by rw [n_lit, n_le (by omega) (by omega)]; omega), cd_f z10, cd_t a3]
      by_cases c : gI S 2 5 = 258
      · rw [cd_t c, gd_t g1, hs.1, cd_t (by rw [n_lit, n_lt (by omega) (by omega)]; exact lk)]
      · rw [cd_f c]
    have hR : fn_X9_scaleNumber (nI n) M = fn_X9_scaleNumber_35 (nI n) M := by
      unfold fn_X9_scaleNumber
      rw [cd_t a4]
      by_cases c : gI M 0 20 = 3
      · rw [cd_t c, gd_t f1, f2, cd_f hM13]
      · rw [cd_f c]
    rw [hC, hR]
    unfold fn_X4_readScale_50 fn_X9_scaleNumber_35
    obtain ⟨r, T, r', M1, w1, w2, w3, w4, w5, w6⟩ := num2 (Or.inl hx0)
    rw [w1, bn2_s, w2, bn2_s]
    by_cases hz : gI M1 0 22 = 0
    · obtain ⟨v, lv, e2, e3⟩ := w6 hz
      have hxT := PZ_x w5 hz
      have k1 : gK T o = 3 := by rw [w3.2.2.2.2.1]; exact g1
      have k2 : gR T o 2 = some e := by rw [w3.2.2.1]; exact g2
      have k3 : gK T e = 21 := by rw [w3.2.2.2.2.1]; exact g3
      have k4 : gN T e = 8 := by rw [w3.2.2.2.2.2.1]; exact g4
      have k5 : gI T o 3 = nI k := by rw [w3.1 o (by omega)]; exact hs.1
      have m13 : gI M1 13 n = nI k := by rw [w4.1 13 (by decide)]; exact hs.2.1
      have t8 : 8 * nI n + nI k = nI (8 * n + k) := by rw [n_lit, n_mul, n_add]
      have u8 : vp_in (nI (8 * n + k)) 3848 := (n_in (by omega)).mpr (by omega)
      have v8 : (nI (8 * n + k)).toNatClampNeg = 8 * n + k := n_cl (by omega)
      have href : cd (gI M1 0 22 = 0) (gd (vp_in (nI n) 481) (gd (vp_in (8 * nI n + gI M1 13 (nI n).toNatClampNeg) 3848) (bn (some (sI M1 12 (8 * nI n + gI M1 13 (nI n).toNatClampNeg).toNatClampNeg r')) fun S5 => gd (vp_in (nI n) 481) (gd (vp_in (nI n) 481) (bn (some (sI S5 13 (nI n).toNatClampNeg (gI S5 13 (nI n).toNatClampNeg + 1))) fun S8 => some S8))))) (some M1) = some (sI (sI M1 12 (8 * n + k) (nI v)) 13 n (nI (k + 1))) := by
        rw [cd_t hz]
        simp only [f1, f2, gd_T, m13, t8, u8, v8, bn_s, e3]
        rw [sI_ne (by decide), m13, show nI k + 1 = nI (k + 1) by rw [n_lit, n_add]]
      rw [href, bn_s, gd_t k1, addS k1 k2 k3 k4 k5 (by omega) hoe, if_pos lk, bn_s, e2]
      generalize hT1 : sI (sI T e k (nI v)) o 3 (nI (k + 1)) = T1
      generalize hM2 : sI (sI M1 12 (8 * n + k) (nI v)) 13 n (nI (k + 1)) = M2'
      have hx1 : PX T1 M2' b N := by
        refine PZ_x ?_ ?_
        · rw [← hT1, ← hM2]
          exact PZ_m (by decide) (by decide) (PZ_m (by decide) (by decide) (PZ_c (by omega) (by omega) (PZ_c (by omega) (by omega) w5)))
        · rw [← hM2, sI_ne (by decide), sI_ne (by decide)]; exact hz
      have hco : CO o e S T1 := by rw [← hT1]; exact (w3.o.tr (CO_e (by omega))).tr (CO_o (by omega))
      have hmo : MO n M M2' := by rw [← hM2]; exact (w4.o.tr (MO_12 lk)).tr (MO_s (by omega) (by decide))
      have hoj : ∀ j, j ≠ 3 → gI T1 o j = gI S o j := fun j hj => by rw [← hT1, sI_nk hj, sI_ne hoe, w3.1 o (by omega)]
      have hmc : ∀ c, c ≠ 0 → c ≠ 12 → c ≠ 13 → gI M2' c = gI M c := fun c z0 z1 z2 => by rw [← hM2, sI_ne z2, sI_ne z1, w4.1 c z0]
      have hs1 : SKn o e n (k + 1) T1 M2' := by
        refine ⟨by rw [← hT1, sI_eq], by rw [← hM2, sI_eq], fun j hj => ?_⟩
        have e5 : gI T1 e j = if j = k then nI v else gI S e j := by
          rw [← hT1, sI_ne (Ne.symm hoe), gI_sI, w3.1 e (by omega)]; simp only [true_and]
        have e6 : gI M2' 12 (8 * n + j) = if j = k then nI v else gI M 12 (8 * n + j) := by
          rw [← hM2, sI_ne (by decide), gI_sI, w4.1 12 (by decide)]
          by_cases c : j = k
          · rw [if_pos ⟨rfl, by omega⟩, if_pos c]
          · rw [if_neg (by omega), if_neg c]
        rw [e5, e6]
        by_cases c : j = k
        · rw [if_pos c, if_pos c]; exact ⟨rfl, (n_in (by omega)).mpr lv⟩
        · rw [if_neg c, if_neg c]; exact hs.2.2 j (by omega)
      have hx1' := hx1
      obtain ⟨st1, c1, c2, c3, c4, c5⟩ := hx1'
      have hsg := sgn_iff c1 c2 (show isS 44 = true by decide)
      have hu : fn_X9_named_88 (m' + 1) (nI n) M2' = cd ((if gI T1 2 5 = 44 then (1 : Int32) else 0) = 0) (some M2') (bn (fn_X9_next M2') fun S3 => bn (fn_X9_scaleNumber (nI n) S3) fun S4 => fn_X9_named_88 m' (nI n) S4) := by
        conv => lhs; unfold fn_X9_named_88
        unfold fn_X9_isSign fn_X9_isSign_27 fn_X9_isSign_28 fn_X9_named_197
        simp only [or_true, true_or, gd_T]
        rw [cd_t c4]
        by_cases q : gI T1 2 5 = 44
        · rw [cd_t (hsg.mp q).1, cd_t (show gI M2' 0 21 = 44 from (hsg.mp q).2), bn2_s, if_pos q]
        · rw [if_neg q]
          by_cases q1 : gI M2' 0 20 = 4
          · rw [cd_t q1, cd_f (show ¬ gI M2' 0 21 = 44 from fun q2 => q (hsg.mpr ⟨q1, q2⟩)), bn2_s]
          · rw [cd_f q1, bn2_s]
      rw [hu]
      unfold fn_X4_readScale_72 fn_X4_readScale_81
      by_cases q : gI T1 2 5 = 44
      · rw [cd_t q, cd_f z10, if_pos q, cd_f z10]
        obtain ⟨S2, M3, y1, y2, y3, y4, y5⟩ := adv2 hx1
        rw [y1, bn_s, bn_s, y2, bn_s, show nI k + 1 = nI (k + 1) by rw [n_lit, n_add]]
        obtain ⟨S', M', z1, z2, z3, z4, z5, z6, z7, z8⟩ := ih (k + 1) (m + 1) m' S2 M3 (by omega) (by omega) (by omega) (by rw [y3.2.2.2.2.1, ← hT1]; exact k1) (by rw [y3.2.2.1, ← hT1]; exact k2) (by rw [y3.2.2.2.2.1, ← hT1]; exact k3) (by rw [y3.2.2.2.2.2.1, ← hT1]; exact k4) y5 (by
          unfold SKn
          rw [y3.1 o (by omega), y3.1 e (by omega), y4.1 13 (by decide), y4.1 12 (by decide)]; exact hs1)
        exact ⟨S', M', z1, z2, (hco.tr y3.o).tr z3, (hmo.tr y4.o).tr z4, fun j hj => (z5 j hj).trans (by rw [y3.1 o (by omega)]; exact hoj j hj), fun c a0 a1 a2 => (z6 c a0 a1 a2).trans (by rw [y4.1 c a0]; exact hmc c a0 a1 a2), z7, z8⟩
      · rw [cd_f q, cd_t rfl, if_neg q, cd_t rfl, bn_s, show nI k + 1 = nI (k + 1) by rw [n_lit, n_add]]
        refine ⟨T1, M2', ?_, rfl, hco, hmo, hoj, hmc, Or.inl hx1, fun _ => ⟨k + 1, by omega, by omega, hs1⟩⟩
        conv => lhs; unfold fn_X4_readScale_4
        unfold fn_X4_readScale_87
        rw [cd_f (by rw [n_lit, n_le (by omega) (by omega)]; omega), cd_t rfl]
    · have hM1 : PF T M1 b N := by
        rcases w5 with w5 | w5
        · obtain ⟨_, _, _, _, z, _⟩ := w5; exact absurd z hz
        · exact w5
      rw [cd_f hz, bn_s]
      exact hbad k m m' S M T M1 r (by omega) g1 g2 g3 g4 hs.1 w3 w4 hM1
end PARTS2
