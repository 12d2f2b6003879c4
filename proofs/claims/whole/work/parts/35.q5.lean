/-! rows -/
theorem cell_out {S : HS} {c0 : Nat} {x1 x2 : Int32} (hk : gK S c0 = 6) (h : x1 < 0 ∨ gI S c0 2 ≤ x1 ∨ x2 < 0 ∨ ¬ x2 < gI S c0 0) : fn_X5_cell c0 x1 x2 S = some (-1, S) := by
  unfold fn_X5_cell fn_X5_cell_24
  by_cases c0' : x1 < 0
  · exact cd_t c0'
  by_cases c1 : gI S c0 2 ≤ x1
  · exact (cd_f c0').trans ((gd_t hk).trans (cd_t c1))
  by_cases c2 : x2 < 0
  · exact (cd_f c0').trans ((gd_t hk).trans ((cd_f c1).trans (cd_t c2)))
  have c3 : ¬ x2 < gI S c0 0 := by rcases h with h | h | h | h <;> first | exact absurd h ‹_› | exact h
  exact (cd_f c0').trans ((gd_t hk).trans ((cd_f c1).trans ((cd_f c2).trans ((gd_t hk).trans (cd_f c3)))))
theorem cell_in {S : HS} {c0 d m w N a b : Nat} (hk : gK S c0 = 6) (hm : gI S c0 2 = nI m) (hw : gI S c0 0 = nI w) (hd : gR S c0 1 = some d) (hkd : gK S d = 22) (hn : gN S d = N) (ha : a < m) (hb : b < w) (hN : m * w ≤ N) (hl : N < 2147483648) : fn_X5_cell c0 (nI a) (nI b) S = some (gJ S d (a * w + b), S) := by
  have h0 : a * w + b < m * w := by
    calc a * w + b < a * w + w := by omega
      _ = (a + 1) * w := by rw [Nat.succ_mul]
      _ ≤ m * w := Nat.mul_le_mul_right _ (by omega)
  have h1 : m * w ≥ m := Nat.le_mul_of_pos_right _ (by omega)
  have h2 : m * w ≥ w := Nat.le_mul_of_pos_left _ (by omega)
  have hv : nI a * gI S c0 0 + nI b = nI (a * w + b) := by rw [hw, n_mul, n_add]
  unfold fn_X5_cell fn_X5_cell_58
  rw [hv, hm, hw, hd]
  simp only [bn_s, hkd, hn]
  rw [n_cl (by omega)]
  have f1 : ¬ nI a < 0 := n_ge0 (by omega)
  have f2 : ¬ nI b < 0 := n_ge0 (by omega)
  have f3 : ¬ nI m ≤ nI a := by rw [n_le (by omega) (by omega)]; omega
  have f4 : nI b < nI w := by rw [n_lt (by omega) (by omega)]; omega
  have f5 : ¬ nI N ≤ nI (a * w + b) := by rw [n_le (by omega) (by omega)]; omega
  have f6 : vp_in (nI (a * w + b)) N := (n_in (by omega)).mpr (by omega)
  simp only [hk, f1, f2, f3, f4, f5, f6, gd_T, cd_T, cd_F]
theorem m_payment (x1 x2 : Int32) : LIl RR (fn_X8_payment x1 x2) (fn_X9_payment x1 x2) := by
  refine LIl_of (fun SC SM hr => ?_)
  have hr' := RR_t hr
  obtain ⟨e, LA, NL, oA, oL, oN, d⟩ := hr
  obtain ⟨⟨_, _, hm, _⟩, _, _, _, _, _, _, _, _, hw, _, _, h54, _, _, hp, _⟩ := e
  have hk : gK SC 16 = 6 := hCk d.1 16 (by decide) rfl
  have hR : gR SC 16 1 = some 17 := hCr d.1 (by decide)
  have hk17 : gK SC 17 = 22 := hCk d.1 17 (by decide) rfl
  have hn17 : gN SC 17 = 960 := hCn d.1 17 (by decide) rfl
  unfold fn_X8_payment fn_X9_payment fn_X9_payment_17 fn_X9_payment_67
  simp only [bn_s]
  rw [show gI (sI SM 0 0 0) 0 54 = gI SM 0 54 from sI_nk (by decide)]
  by_cases c0 : x1 < 0
  · exact ⟨_, _, _, bn2_of (cell_out hk (Or.inl c0)), cd_t c0, hr'⟩
  by_cases c1 : x1 < gI SM 0 54
  · have ⟨em, lm⟩ := n_of_in hm
    rw [em] at c1
    have hx1 := n_lo' c0 c1 (by omega)
    have h3 : vp_in x1 320 := in_mono hx1 (by omega)
    obtain ⟨a, lx, ex⟩ := n_ex hx1
    subst ex
    obtain ⟨p1, p2, p3⟩ := hp a lx
    have hv (b : Nat) (hb : b < 3) : fn_X5_cell 16 (nI a) (nI b) SC = some (gJ SC 17 (a * 3 + b), SC) := cell_in (a := a) (b := b) (w := 3) (m := Int32.toNatClampNeg (gI SM 0 54)) hk (by rw [h54]; exact em) hw hR hk17 hn17 lx hb (by omega) (by omega)
    rw [em, n_cl (by omega)]
    by_cases d0 : x2 = 0
    · refine ⟨_, _, _, bn2_of (by rw [d0]; exact hv 0 (by decide)), (cd_f c0).trans ((cd_t c1).trans ((cd_t d0).trans ((gd_t h3).trans ?_))), hr'⟩
      rw [Nat.add_zero, Nat.mul_comm, p1, sI_ne (by decide)]
    by_cases d1 : x2 = 1
    · refine ⟨_, _, _, bn2_of (by rw [d1]; exact hv 1 (by decide)), (cd_f c0).trans ((cd_t c1).trans ((cd_f d0).trans ((cd_t d1).trans ((gd_t h3).trans ?_)))), hr'⟩
      rw [Nat.mul_comm, p2, sI_ne (by decide)]
    by_cases d2 : x2 = 2
    · refine ⟨_, _, _, bn2_of (by rw [d2]; exact hv 2 (by decide)), (cd_f c0).trans ((cd_t c1).trans ((cd_f d0).trans ((cd_f d1).trans ((cd_t d2).trans ((gd_t h3).trans ?_))))), hr'⟩
      rw [Nat.mul_comm, p3, gJ_sI]
    · refine ⟨_, _, _, bn2_of (cell_out hk (Or.inr (Or.inr ?_))), (cd_f c0).trans ((cd_t c1).trans ((cd_f d0).trans ((cd_f d1).trans (cd_f d2)))), hr'⟩
      by_cases q : x2 < 0
      · exact Or.inl q
      · refine Or.inr (fun z => ?_)
        rw [hw] at z
        obtain ⟨e2, l2⟩ := n_of_in (n_lo' (n := 3) q z (by decide))
        have : Int32.toNatClampNeg x2 = 0 ∨ Int32.toNatClampNeg x2 = 1 ∨ Int32.toNatClampNeg x2 = 2 := by omega
        rcases this with q | q | q <;> rw [q] at e2
        · exact d0 e2
        · exact d1 e2
        · exact d2 e2
  · refine ⟨_, _, _, bn2_of (cell_out hk (Or.inr (Or.inl ?_))), (cd_f c0).trans (cd_f c1), hr'⟩
    rw [h54]; simpa using c1
theorem cell4 {SC SM : HS} {r dd N z cM : Nat} {x1 x2 : Int32} (hk : gK SC r = 6) (hR : gR SC r 1 = some dd) (hkd : gK SC dd = 22) (hn : gN SC dd = 4 * N) (hN : N < 1000) (hw : gI SC r 0 = 4) (hs : gI SC r 2 = gI SM 0 z) (hv : vp_in (gI SM 0 z) (N + 1)) (hc : ∀ k j, k < Int32.toNatClampNeg (gI SM 0 z) → j < 4 → gJ SC dd (4 * k + j) = (gI SM cM (4 * k + j)).toInt64) (g : HS → Option (Int32 × HS))
  (hg1 : (x1 < 0 ∨ gI SM 0 z ≤ x1 ∨ x2 < 0 ∨ ¬ x2 ≤ 3) → g SM = some (-1, sI SM 0 0 0)) (hg2 : ∀ a b, a < Int32.toNatClampNeg (gI SM 0 z) → b < 4 → x1 = nI a → x2 = nI b → g SM = some (gI SM cM (4 * a + b), sI SM 0 0 0)) :
  ∃ v : Int64, fn_X5_cell r x1 x2 SC = some (v, SC) ∧ g SM = some (v.toInt32, sI SM 0 0 0) := by
  obtain ⟨em, lm⟩ := n_of_in hv
  by_cases c0 : x1 < 0
  · exact ⟨_, cell_out hk (Or.inl c0), hg1 (Or.inl c0)⟩
  by_cases c1 : gI SM 0 z ≤ x1
  · exact ⟨_, cell_out hk (Or.inr (Or.inl (by rw [hs]; exact c1))), hg1 (Or.inr (Or.inl c1))⟩
  by_cases c2 : x2 < 0
  · exact ⟨_, cell_out hk (Or.inr (Or.inr (Or.inl c2))), hg1 (Or.inr (Or.inr (Or.inl c2)))⟩
  by_cases c3 : x2 ≤ 3
  · rw [em] at c1
    obtain ⟨a, l1, e1⟩ := n_ex (n_lo c0 c1 (by omega))
    have c3' : ¬ nI 4 ≤ x2 := by
      rw [t_le] at *
      have q1 : (3 : Int32).toInt = 3 := rfl
      have q2 : (nI 4).toInt = 4 := rfl
      omega
    obtain ⟨b, l2, e2⟩ := n_ex (n_lo c2 c3' (by omega))
    refine ⟨gJ SC dd (a * 4 + b), ?_, ?_⟩
    · rw [e1, e2]
      exact cell_in (m := Int32.toNatClampNeg (gI SM 0 z)) hk (by rw [hs]; exact em) hw hR hkd hn l1 l2 (by omega) (by omega)
    · rw [hg2 _ _ l1 l2 e1 e2, Nat.mul_comm a 4, hc _ _ l1 l2]
      simp
  · refine ⟨_, cell_out hk (Or.inr (Or.inr (Or.inr ?_))), hg1 (Or.inr (Or.inr (Or.inr c3)))⟩
    rw [hw]
    rw [t_le] at c3
    rw [t_lt]
    have q1 : (3 : Int32).toInt = 3 := rfl
    have q2 : (4 : Int32).toInt = 4 := rfl
    omega
theorem m_pair (x1 x2 : Int32) : LIi RR (fn_X8_pair x1 x2) (fn_X9_pair x1 x2) := by
  refine LIi_of (fun SC SM hr => ?_)
  have hr' := RR_t hr
  obtain ⟨e, LA, NL, oA, oL, oN, d⟩ := hr
  obtain ⟨⟨_, _, _, hm, _⟩, _, _, _, _, _, _, _, _, _, hw, _, _, h57, _, _, hp, _⟩ := e
  have hm' := n_of_in hm
  obtain ⟨v, h1, h2⟩ := cell4 (x1 := x1) (x2 := x2) (cM := 39) (hCk d.1 18 (by decide) rfl) (hCr d.1 (by decide)) (hCk d.1 19 (by decide) rfl) (hCn d.1 19 (by decide) rfl) (by decide) hw h57 hm hp (fn_X9_pair x1 x2) (by
    intro h
    unfold fn_X9_pair fn_X9_pair_26 fn_X9_pair_40
    simp only [bn_s]
    rw [show gI (sI SM 0 0 0) 0 57 = gI SM 0 57 from sI_nk (by decide)]
    by_cases c0 : x1 < 0
    · exact cd_t c0
    by_cases c1 : gI SM 0 57 ≤ x1
    · exact (cd_f c0).trans (cd_t c1)
    by_cases c2 : x2 < 0
    · exact (cd_f c0).trans ((cd_f c1).trans (cd_t c2))
    have c3 : ¬ x2 ≤ 3 := by rcases h with h | h | h | h <;> first | exact absurd h ‹_› | exact h
    exact (cd_f c0).trans ((cd_f c1).trans ((cd_f c2).trans (cd_f c3)))) (by
    intro a b ha hb e1 e2
    unfold fn_X9_pair fn_X9_pair_40
    simp only [bn_s]
    rw [show gI (sI SM 0 0 0) 0 57 = gI SM 0 57 from sI_nk (by decide), hm'.1, e1, e2, show (4 : Int32) * nI a + nI b = nI (4 * a + b) by rw [n_lit, n_mul, n_add], n_cl (by omega)]
    refine (cd_f (by rw [n_lit, n_lt (by omega) (by omega)]; omega)).trans ((cd_f (by rw [n_le (by omega) (by omega)]; omega)).trans ((cd_f (by rw [n_lit, n_lt (by omega) (by omega)]; omega)).trans ((cd_t (by rw [n_lit, n_le (by omega) (by omega)]; omega)).trans ((gd_t ((n_in (by omega)).mpr (by omega))).trans rfl)))))
  exact ⟨_, _, _, bn2_of h1, h2, hr'⟩
theorem m_met (x1 x2 : Int32) : LIi RR (fn_X8_met x1 x2) (fn_X9_met x1 x2) := by
  refine LIi_of (fun SC SM hr => ?_)
  have hr' := RR_t hr
  obtain ⟨e, LA, NL, oA, oL, oN, d⟩ := hr
  obtain ⟨⟨_, _, _, _, hm⟩, _, _, _, _, _, _, _, _, _, _, hw, _, _, h57, _, _, hp⟩ := e
  have hm' := n_of_in hm
  obtain ⟨v, h1, h2⟩ := cell4 (x1 := x1) (x2 := x2) (cM := 40) (hCk d.1 20 (by decide) rfl) (hCr d.1 (by decide)) (hCk d.1 21 (by decide) rfl) (hCn d.1 21 (by decide) rfl) (by decide) hw h57 hm hp (fn_X9_met x1 x2) (by
    intro h
    unfold fn_X9_met fn_X9_met_26 fn_X9_met_40
    simp only [bn_s]
    rw [show gI (sI SM 0 0 0) 0 59 = gI SM 0 59 from sI_nk (by decide)]
    by_cases c0 : x1 < 0
    · exact cd_t c0
    by_cases c1 : gI SM 0 59 ≤ x1
    · exact (cd_f c0).trans (cd_t c1)
    by_cases c2 : x2 < 0
    · exact (cd_f c0).trans ((cd_f c1).trans (cd_t c2))
    have c3 : ¬ x2 ≤ 3 := by rcases h with h | h | h | h <;> first | exact absurd h ‹_› | exact h
    exact (cd_f c0).trans ((cd_f c1).trans ((cd_f c2).trans (cd_f c3)))) (by
    intro a b ha hb e1 e2
    unfold fn_X9_met fn_X9_met_40
    simp only [bn_s]
    rw [show gI (sI SM 0 0 0) 0 59 = gI SM 0 59 from sI_nk (by decide), hm'.1, e1, e2, show (4 : Int32) * nI a + nI b = nI (4 * a + b) by rw [n_lit, n_mul, n_add], n_cl (by omega)]
    refine (cd_f (by rw [n_lit, n_lt (by omega) (by omega)]; omega)).trans ((cd_f (by rw [n_le (by omega) (by omega)]; omega)).trans ((cd_f (by rw [n_lit, n_lt (by omega) (by omega)]; omega)).trans ((cd_t (by rw [n_lit, n_le (by omega) (by omega)]; omega)).trans ((gd_t ((n_in (by omega)).mpr (by omega))).trans rfl)))))
  exact ⟨_, _, _, bn2_of h1, h2, hr'⟩
