/-! feed -/
theorem nar_and (y : Int32) : (vp_nar .byte (y.toInt8.toInt32)) &&& 255 = y &&& 255 := by
  have h : vp_nar .byte (y.toInt8.toInt32) = y.toInt8.toInt32.toInt8.toInt32 := rfl
  rw [h]
  apply Int32.toBitVec_inj.mp
  simp only [Int32.toBitVec_and]
  apply BitVec.eq_of_getLsbD_eq
  intro i hi
  simp only [BitVec.getLsbD_and, Int8.toBitVec_toInt32, Int32.toBitVec_toInt8, BitVec.getLsbD_signExtend, BitVec.getLsbD_setWidth]
  have h255 : (255 : Int32).toBitVec.getLsbD i = decide (i < 8) := by
    have : ∀ i : Fin 32, (255 : Int32).toBitVec.getLsbD i.val = decide (i.val < 8) := by decide
    exact this ⟨i, hi⟩
  rw [h255]
  by_cases h8 : i < 8
  · simp [h8, hi, show i < 32 by omega]
  · simp [h8]
/-- four bytes more on the class's tape -/
def FD (x : Int32) (b : Nat) (S S' : HS) : Prop := gI S' 0 14 = nI (b + 4) ∧ (∀ j, j ≠ 14 → gI S' 0 j = gI S 0 j) ∧ (∀ c, c ≠ 0 → c ≠ 1 → gI S' c = gI S c) ∧ gR S' = gR S ∧ gJ S' = gJ S ∧ gK S' = gK S ∧ gN S' = gN S ∧ gZ S' = gZ S ∧
  ∀ j, gI S' 1 j &&& 255 = if b ≤ j ∧ j < b + 4 then (x >>> nI (24 - 8 * (j - b))) &&& 255 else gI S 1 j &&& 255
theorem fd_step {x : Int32} {b : Nat} {sh : Int32} {S : HS} {n : Nat} (h : gI S 0 14 = nI b) (hb : b < 2000) (hs : ¬ sh < 0) : fn_X8_feedNumber_3 (n + 1) x sh S = fn_X8_feedNumber_3 n x (sh + (-8)) (sI (sI S 1 b (vp_nar .byte ((x >>> (sh &&& 31) : Int32).toInt8.toInt32))) 0 14 (nI (b + 1))) := by
  conv => lhs; unfold fn_X8_feedNumber_3
  unfold fn_X8_feedNumber_40
  have f1 : ¬ (2000 : Int32) ≤ nI b := by rw [n_lit, n_le (by omega) (by omega)]; omega
  have f2 : vp_in (nI b) 2000 := (n_in (by omega)).mpr hb
  simp only [hs, h, f1, f2, cd_F, gd_T, bn_s]
  rw [n_cl (by omega), show gI (sI S 1 b (vp_nar .byte ((x >>> (sh &&& 31) : Int32).toInt8.toInt32))) 0 14 = nI b from by rw [sI_ne (by decide)]; exact h, show nI b + 1 = nI (b + 1) by rw [n_lit, n_add]]
theorem feedNumber_C {x : Int32} {b : Nat} {S : HS} (h : gI S 0 14 = nI b) (hb : b + 4 ≤ 2000) : ∃ S', fn_X8_feedNumber x S = some S' ∧ FD x b S S' := by
  unfold fn_X8_feedNumber
  rw [show hFuel = 4995 + 1 + 1 + 1 + 1 + 1 from rfl, fd_step h (by omega) (by decide), show (24 : Int32) + (-8) = 16 from rfl]
  rw [fd_step (b := b + 1) sI_eq (by omega) (by decide), show (16 : Int32) + (-8) = 8 from rfl]
  rw [fd_step (b := b + 1 + 1) sI_eq (by omega) (by decide), show (8 : Int32) + (-8) = 0 from rfl]
  rw [fd_step (b := b + 1 + 1 + 1) sI_eq (by omega) (by decide), show (0 : Int32) + (-8) = -8 from rfl]
  conv => enter [1, S', 1, 1]; unfold fn_X8_feedNumber_3
  refine ⟨_, cd_t (by decide), ?_, ?_, ?_, rfl, rfl, rfl, rfl, rfl, ?_⟩
  · rw [sI_eq]
  · intro j hj
    rw [sI_nk hj, sI_ne (by decide), sI_nk hj, sI_ne (by decide), sI_nk hj, sI_ne (by decide), sI_nk hj, sI_ne (by decide)]
  · intro c h0 h1
    rw [sI_ne h0, sI_ne h1, sI_ne h0, sI_ne h1, sI_ne h0, sI_ne h1, sI_ne h0, sI_ne h1]
  · intro j
    rw [sI_ne (by decide)]
    by_cases e3 : j = b + 1 + 1 + 1
    · subst e3; rw [sI_eq, nar_and, if_pos (by omega), show b + 1 + 1 + 1 - b = 3 by omega]; rfl
    rw [sI_nk e3, sI_ne (by decide)]
    by_cases e2 : j = b + 1 + 1
    · subst e2; rw [sI_eq, nar_and, if_pos (by omega), show b + 1 + 1 - b = 2 by omega]; rfl
    rw [sI_nk e2, sI_ne (by decide)]
    by_cases e1 : j = b + 1
    · subst e1; rw [sI_eq, nar_and, if_pos (by omega), show b + 1 - b = 1 by omega]; rfl
    rw [sI_nk e1, sI_ne (by decide)]
    by_cases e0 : j = b
    · subst e0; rw [sI_eq, nar_and, if_pos (by omega), show j - j = 0 by omega]; rfl
    rw [sI_nk e0, if_neg (by omega)]
/-- the number a byte of a feed comes from -/
def fdx (x1 x2 x3 x4 x5 : Int32) (k : Nat) : Int32 := if k < 4 then x1 else if k < 8 then x2 else if k < 12 then x3 else if k < 16 then x4 else x5
def fdv (x1 x2 x3 x4 x5 : Int32) (k : Nat) : Int32 := (fdx x1 x2 x3 x4 x5 k >>> nI (24 - 8 * (k % 4))) &&& 255
theorem fd_sh {k : Nat} (h : k < 20) : (24 - (8 * (nI k - nI k / 4 * 4))) &&& 31 = nI (24 - 8 * (k % 4)) := by
  have : ∀ k : Fin 20, (24 - (8 * (nI k.val - nI k.val / 4 * 4))) &&& 31 = nI (24 - 8 * (k.val % 4)) := by decide +kernel
  exact this ⟨k, h⟩
theorem feed_M {x1 x2 x3 x4 x5 : Int32} {b : Nat} (hb : b + 20 ≤ 2000) : ∀ (i k n : Nat) (S : HS), i + k = 20 → i < n → gI S 0 2 = nI b → ∃ S', fn_X9_feed_20 n x1 x2 x3 x4 x5 (nI k) S = some (nI (b + 20), S') ∧ gI S' 0 2 = nI (b + 20) ∧ (∀ j, j ≠ 2 → gI S' 0 j = gI S 0 j) ∧ (∀ c, c ≠ 0 → c ≠ 1 → gI S' c = gI S c) ∧ gJ S' = gJ S ∧ ∀ j, gI S' 1 j = if b + k ≤ j ∧ j < b + 20 then fdv x1 x2 x3 x4 x5 (j - b) else gI S 1 j := by
  intro i
  induction i with
  | zero =>
    intro k n S e hn h
    obtain ⟨n, rfl⟩ : ∃ m, n = m + 1 := ⟨n - 1, by omega⟩
    have e : k = 20 := by omega
    subst e
    unfold fn_X9_feed_20
    refine ⟨sI S 0 2 (nI (b + 20)), (cd_t (by decide)).trans (by rw [bn_s, sI_eq, h, show nI b + 20 = nI (b + 20) by rw [n_lit, n_add]]), ?_, ?_, ?_, rfl, ?_⟩
    · rw [sI_eq]
    · intro j hj; rw [sI_nk hj]
    · intro c h0 h1; rw [sI_ne h0]
    · intro j; rw [sI_ne (by decide), if_neg (by omega)]
  | succ i ih =>
    intro k n S e hn h
    obtain ⟨n, rfl⟩ : ∃ m, n = m + 1 := ⟨n - 1, by omega⟩
    have hk : k < 20 := by omega
    obtain ⟨S', q1, q2, q3, q4, q5, q6⟩ := ih (k + 1) n (sI S 1 (b + k) (fdv x1 x2 x3 x4 x5 k)) (by omega) (by omega) (by rw [sI_ne (by decide)]; exact h)
    have hcm : ∀ y, fn_X9_feed_73 (fn_X9_feed_20 n) x1 x2 x3 x4 x5 (nI k) y S = fn_X9_feed_20 n x1 x2 x3 x4 x5 (nI (k + 1)) (sI S 1 (b + k) ((y >>> nI (24 - 8 * (k % 4))) &&& 255)) := by
      intro y
      unfold fn_X9_feed_73
      rw [h, n_add, gd_t ((n_in (by omega)).mpr (by omega)), fd_sh hk, n_cl (by omega)]
      simp only [bn_s]
      rw [show nI k + 1 = nI (k + 1) by rw [n_lit, n_add]]
    refine ⟨S', ?_, q2, fun j hj => by rw [q3 j hj, sI_ne (by decide)], fun c h0 h1 => by rw [q4 c h0 h1, sI_ne h1], q5, fun j => ?_⟩
    · rw [← q1]
      conv => lhs; unfold fn_X9_feed_20
      rw [cd_f (by rw [n_lit, n_le (by omega) (by omega)]; omega)]
      simp only [hcm]
      unfold fdv fdx
      by_cases c1 : k < 4
      · rw [cd_f (by rw [n_lit, n_le (by omega) (by omega)]; omega), if_pos c1]
      rw [cd_t (by rw [n_lit, n_le (by omega) (by omega)]; omega), if_neg c1]
      by_cases c2 : k < 8
      · rw [cd_f (by rw [n_lit, n_le (by omega) (by omega)]; omega), if_pos c2]
      rw [cd_t (by rw [n_lit, n_le (by omega) (by omega)]; omega), if_neg c2]
      by_cases c3 : k < 12
      · rw [cd_f (by rw [n_lit, n_le (by omega) (by omega)]; omega), if_pos c3]
      rw [cd_t (by rw [n_lit, n_le (by omega) (by omega)]; omega), if_neg c3]
      by_cases c4 : k < 16
      · rw [cd_f (by rw [n_lit, n_le (by omega) (by omega)]; omega), if_pos c4]
      rw [cd_t (by rw [n_lit, n_le (by omega) (by omega)]; omega), if_neg c4]
    · rw [q6]
      by_cases c1 : b + (k + 1) ≤ j ∧ j < b + 20
      · rw [if_pos c1, if_pos (by omega)]
      · rw [if_neg c1]
        by_cases c2 : j = b + k
        · subst c2; rw [sI_eq, if_pos (by omega), show b + k - b = k by omega]
        · rw [sI_nk c2, if_neg (by omega)]
theorem m_feed (x1 x2 x3 x4 x5 : Int32) : LIi RR (fn_X8_feed x1 x2 x3 x4 x5) (fn_X9_feed x1 x2 x3 x4 x5) := by
  refine LIi_of (fun SC SM hr => ?_)
  have hr' := RR_t hr
  obtain ⟨e, LA, NL, oA, oL, oN, d⟩ := hr
  have h14 : gI SC 0 14 = gI SM 0 2 := e.2.2.1
  have ⟨b, lb, eb⟩ := n_ex e.1.2.1
  have e2 : gI (sI SM 0 0 0) 0 2 = nI b := (sI_nk (by decide)).trans eb
  have e14 := h14.trans eb
  unfold fn_X8_feed fn_X9_feed
  simp only [bn_s]
  rw [e14, e2, show nI b + 20 = nI (b + 20) by rw [n_lit, n_add]]
  rcases Nat.lt_or_ge 1980 b with c | c
  · rw [cd_f (by rw [n_lit, n_le (by omega) (by omega)]; omega), cd_f (by rw [n_lit, n_le (by omega) (by omega)]; omega)]
    exact ⟨_, _, _, rfl, rfl, hr'⟩
  · rw [cd_t (by rw [n_lit, n_le (by omega) (by omega)]; omega), cd_t (by rw [n_lit, n_le (by omega) (by omega)]; omega)]
    obtain ⟨S1, r1, f1⟩ := feedNumber_C (x := x1) e14 (by omega)
    obtain ⟨S2, r2, f2⟩ := feedNumber_C (x := x2) f1.1 (by omega)
    obtain ⟨S3, r3, f3⟩ := feedNumber_C (x := x3) f2.1 (by omega)
    obtain ⟨S4, r4, f4⟩ := feedNumber_C (x := x4) f3.1 (by omega)
    obtain ⟨S5, r5, f5⟩ := feedNumber_C (x := x5) f4.1 (by omega)
    simp only [r1, r2, r3, r4, r5, bn_s]
    obtain ⟨T, q1, q2, q3, q4, q5, q6⟩ := feed_M (x1 := x1) (x2 := x2) (x3 := x3) (x4 := x4) (x5 := x5) (b := b) (by omega) 20 0 hFuel (sI SM 0 0 0) rfl (by decide) e2
    refine ⟨_, S5, T, rfl, ?_, ?_, LA, NL, oA, oL, oN, ?_⟩
    · rw [f5.1]; exact q1
    · obtain ⟨⟨a1, a2, a3⟩, b1, b2, b3, b4, b5, b6, b7, b8, b9, b10⟩ := e
      have u : ∀ j, j ≠ 14 → gI S5 0 j = gI SC 0 j := fun j hj => (f5.2.1 j hj).trans ((f4.2.1 j hj).trans ((f3.2.1 j hj).trans ((f2.2.1 j hj).trans (f1.2.1 j hj))))
      have v : ∀ c, c ≠ 0 → c ≠ 1 → gI S5 c = gI SC c := fun c h0 h1 => (f5.2.2.1 c h0 h1).trans ((f4.2.2.1 c h0 h1).trans ((f3.2.2.1 c h0 h1).trans ((f2.2.2.1 c h0 h1).trans (f1.2.2.1 c h0 h1))))
      have uM : ∀ j, j ≠ 0 → j ≠ 2 → gI T 0 j = gI SM 0 j := fun j h0 h2 => (q3 j h2).trans (sI_nk h0)
      have vM : ∀ c, c ≠ 0 → c ≠ 1 → gI T c = gI SM c := fun c h0 h1 => (q4 c h0 h1).trans (sI_ne h0)
      have gj : gJ S5 = gJ SC := f5.2.2.2.2.1.trans (f4.2.2.2.2.1.trans (f3.2.2.2.2.1.trans (f2.2.2.2.2.1.trans f1.2.2.2.2.1)))
      unfold ERel EOK qA
      rw [uM 3 (by decide) (by decide), uM 7 (by decide) (by decide), uM 24 (by decide) (by decide), uM 25 (by decide) (by decide), uM 54 (by decide) (by decide), uM 55 (by decide) (by decide), uM 57 (by decide) (by decide), uM 59 (by decide) (by decide), q2, u 13 (by decide), u 15 (by decide), u 17 (by decide), f5.1, vM 4 (by decide) (by decide), vM 36 (by decide) (by decide), vM 37 (by decide) (by decide), vM 39 (by decide) (by decide), vM 40 (by decide) (by decide), v 2 (by decide) (by decide), v 16 (by decide) (by decide), v 18 (by decide) (by decide), v 20 (by decide) (by decide), gj, q5]
      refine ⟨⟨a1, (n_in (by omega)).mpr (by omega), a3⟩, b1, rfl, b3, b4, ?_, b6, b7, b8, b9, b10⟩
      intro j hj
      rw [q6 j, f5.2.2.2.2.2.2.2.2 j, f4.2.2.2.2.2.2.2.2 j, f3.2.2.2.2.2.2.2.2 j, f2.2.2.2.2.2.2.2.2 j, f1.2.2.2.2.2.2.2.2 j]
      unfold fdv fdx
      by_cases c5 : b + 4 + 4 + 4 + 4 ≤ j ∧ j < b + 4 + 4 + 4 + 4 + 4
      · rw [if_pos c5, if_pos (by omega), if_neg (by omega), if_neg (by omega), if_neg (by omega), if_neg (by omega), show 24 - 8 * ((j - b) % 4) = 24 - 8 * (j - (b + 4 + 4 + 4 + 4)) by omega]
      rw [if_neg c5]
      by_cases c4 : b + 4 + 4 + 4 ≤ j ∧ j < b + 4 + 4 + 4 + 4
      · rw [if_pos c4, if_pos (by omega), if_neg (by omega), if_neg (by omega), if_neg (by omega), if_pos (by omega), show 24 - 8 * ((j - b) % 4) = 24 - 8 * (j - (b + 4 + 4 + 4)) by omega]
      rw [if_neg c4]
      by_cases c3 : b + 4 + 4 ≤ j ∧ j < b + 4 + 4 + 4
      · rw [if_pos c3, if_pos (by omega), if_neg (by omega), if_neg (by omega), if_pos (by omega), show 24 - 8 * ((j - b) % 4) = 24 - 8 * (j - (b + 4 + 4)) by omega]
      rw [if_neg c3]
      by_cases c2 : b + 4 ≤ j ∧ j < b + 4 + 4
      · rw [if_pos c2, if_pos (by omega), if_neg (by omega), if_pos (by omega), show 24 - 8 * ((j - b) % 4) = 24 - 8 * (j - (b + 4)) by omega]
      rw [if_neg c2]
      by_cases c1 : b ≤ j ∧ j < b + 4
      · rw [if_pos c1, if_pos (by omega), if_pos (by omega), show 24 - 8 * ((j - b) % 4) = 24 - 8 * (j - b) by omega]
      rw [if_neg c1, if_neg (by omega), sI_ne (by decide)]
      exact b5 j hj
    · have k : gK S5 = gK SC := f5.2.2.2.2.2.1.trans (f4.2.2.2.2.2.1.trans (f3.2.2.2.2.2.1.trans (f2.2.2.2.2.2.1.trans f1.2.2.2.2.2.1)))
      have n : gN S5 = gN SC := f5.2.2.2.2.2.2.1.trans (f4.2.2.2.2.2.2.1.trans (f3.2.2.2.2.2.2.1.trans (f2.2.2.2.2.2.2.1.trans f1.2.2.2.2.2.2.1)))
      have z : gZ S5 = gZ SC := f5.2.2.2.2.2.2.2.1.trans (f4.2.2.2.2.2.2.2.1.trans (f3.2.2.2.2.2.2.2.1.trans (f2.2.2.2.2.2.2.2.1.trans f1.2.2.2.2.2.2.2.1)))
      have r : gR S5 = gR SC := f5.2.2.2.1.trans (f4.2.2.2.1.trans (f3.2.2.2.1.trans (f2.2.2.2.1.trans f1.2.2.2.1)))
      have v : ∀ c, c ≠ 0 → c ≠ 1 → gI S5 c = gI SC c := fun c h0 h1 => (f5.2.2.1 c h0 h1).trans ((f4.2.2.1 c h0 h1).trans ((f3.2.2.1 c h0 h1).trans ((f2.2.2.1 c h0 h1).trans (f1.2.2.1 c h0 h1))))
      have hc : hC S5 := by
        unfold hC
        rw [k, n, z, r]
        exact d.1
      have u : gI S5 0 16 = gI SC 0 16 := (f5.2.1 _ (by decide)).trans ((f4.2.1 _ (by decide)).trans ((f3.2.1 _ (by decide)).trans ((f2.2.1 _ (by decide)).trans (f1.2.1 _ (by decide)))))
      have hM : MS (sI SM 0 0 0) T := ⟨fun c h0 h1 => q4 c (by omega) (by omega), q3 _ (by decide), q3 _ (by decide), q3 _ (by decide)⟩
      refine hM.DRel ((MS_s0 (by decide)).DRel (DRel_keep (S := SC) hc k n z u (v _ (by decide) (by decide)) (v _ (by decide) (by decide)) (v _ (by decide) (by decide)) (by rw [r]) (by rw [r]) (fun q hq => v q (by omega) (by omega)) (fun q hq => by rw [r]) d))
