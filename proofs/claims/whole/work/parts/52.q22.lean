/-! like -/
def vb : Nat → Nat
  | 0 => 0
  | i + 1 => vb i + (7 - i)
theorem vb_le {i : Nat} (h : i < 8) : vb (i + 1) ≤ 28 := by
  have : ∀ i : Fin 8, vb (i.val + 1) ≤ 28 := by decide
  exact this ⟨i, h⟩
theorem vb_s {i : Nat} : vb (i + 1) = vb i + (7 - i) := rfl
def LT (D : HS) (hv : Nat → Int32) (pt am : Nat → Nat) (LA NL : List Nat) (oA oL oN : Nat → Nat) (m : Nat) (T M : HS) : Prop := DRel T D LA NL oA oL oN ∧ ERel T M ∧ MS D M ∧ gI T 18 2 = nI m ∧ (∀ q, q < qP D → gI T 22 q = (if hv q = 1 then nI (pt q) else -1) ∧ gI T 23 q = nI (am q)) ∧ ∀ q, q < qP D → gI M 23 (9 * q + 6) = hv q ∧ gI M 26 q = nI (pt q) ∧ gI M 30 q = nI (am q)
theorem like_step {D : HS} {hv : Nat → Int32} {pt am : Nat → Nat} {LA NL : List Nat} {oA oL oN : Nat → Nat} (hpt : ∀ q, pt q < 300000) (ham : ∀ q, am q < 300000000) {k121 : Int32 → Int32 → HS → Option (Int32 × HS)} {k48 : Int32 → Int32 → HS → Option (Int32 × HS)} {x3 : Int32} {i j m n n' : Nat} {T M : HS} (hij : i < j) (hj : j < qP D) (hm : m < 28) (h : LT D hv pt am LA NL oA oL oN m T M) :
    ∃ m' T' M', fn_X8_like_136 k121 (n + 1) x3 (nI i) (nI j) T = fn_X8_like_136 k121 n x3 (nI i) (nI (j + 1)) T' ∧ fn_X9_like_63 k48 (n' + 1) x3 (nI i) (nI j) M = fn_X9_like_63 k48 n' x3 (nI i) (nI (j + 1)) M' ∧ m' ≤ m + 1 ∧ LT D hv pt am LA NL oA oL oN m' T' M' := by
  have h0 := h
  obtain ⟨d, e, ms, h18, hT, hM⟩ := h
  have hd := d.2.2.1
  have lP : qP D < 9 := (n_of_in hd.2.1).2
  have e16 : gI T 0 16 = nI (qP D) := d.2.2.2.2.2.2.2.2.2.2.1.trans (n_of_in hd.2.1).1
  have e28 : gI M 0 28 = nI (qP D) := by rw [ms.2.2.1]; exact (n_of_in hd.2.1).1
  obtain ⟨i1, i2⟩ := hT i (by omega)
  obtain ⟨j1, j2⟩ := hT j hj
  obtain ⟨k1, k2, k3⟩ := hM i (by omega)
  obtain ⟨l1, l2, l3⟩ := hM j hj
  have p1 := hpt i
  have p2 := hpt j
  have a1 := ham i
  have a2 := ham j
  have f1 : ¬ nI (qP D) ≤ nI j := by rw [n_le (by omega) (by omega)]; omega
  have f2 : vp_in (nI i) 8 := (n_in (by omega)).mpr (by omega)
  have f3 : vp_in (nI j) 8 := (n_in (by omega)).mpr (by omega)
  have f4 : (nI i).toNatClampNeg = i := n_cl (by omega)
  have f5 : (nI j).toNatClampNeg = j := n_cl (by omega)
  have f6 : nI j + 1 = nI (j + 1) := by rw [n_lit, n_add]
  have t6 : 9 * nI i + 6 = nI (9 * i + 6) := by rw [n_lit, n_mul, n_lit, n_add]
  have t7 : 9 * nI j + 6 = nI (9 * j + 6) := by rw [n_lit, n_mul, n_lit, n_add]
  have f7 : vp_in (nI (9 * i + 6)) 72 := (n_in (by omega)).mpr (by omega)
  have f8 : vp_in (nI (9 * j + 6)) 72 := (n_in (by omega)).mpr (by omega)
  have f9 : (nI (9 * i + 6)).toNatClampNeg = 9 * i + 6 := n_cl (by omega)
  have f10 : (nI (9 * j + 6)).toNatClampNeg = 9 * j + 6 := n_cl (by omega)
  have hskip8 : fn_X8_areLike (nI i) (nI j) x3 T = some (0, T) → fn_X8_like_136 k121 (n + 1) x3 (nI i) (nI j) T = fn_X8_like_136 k121 n x3 (nI i) (nI (j + 1)) T := by
    intro hz
    conv => lhs; unfold fn_X8_like_136
    rw [e16, cd_f f1, hz, bn2_s, cd_t rfl]
    unfold fn_X8_like_165
    rw [bn_s, f6]
  by_cases c1 : hv i = 1
  · by_cases c2 : hv j = 1
    · rw [if_pos c1] at i1
      rw [if_pos c2] at j1
      have n1 : ¬ nI (pt i) = -1 := n_neg1 (by omega)
      have n2 : ¬ nI (pt j) = -1 := n_neg1 (by omega)
      by_cases c3 : x3 < jabs (nI (pt i) - nI (pt j))
      · refine ⟨m, T, M, hskip8 ?_, ?_, by omega, h0⟩
        · unfold fn_X8_areLike fn_X8_areLike_33 fn_X8_areLike_71 fn_X8_areLike_72
          simp only [f2, f3, f4, f5, i1, j1, n1, n2, c3, z10, gd_T, cd_F, cd_T, bn_s, or_true, true_or]
        · conv => lhs; unfold fn_X9_like_63
          unfold fn_X9_like_111 fn_X9_like_263
          simp only [e28, f1, t6, t7, f7, f8, f9, f10, k1, l1, c1, c2, z10, f2, f3, f4, f5, f6, k2, l2, c3, gd_T, cd_F, cd_T, bn_s]
      · by_cases c4 : am i = am j
        · refine ⟨m, T, M, hskip8 ?_, ?_, by omega, h0⟩
          · unfold fn_X8_areLike fn_X8_areLike_33 fn_X8_areLike_71 fn_X8_areLike_72
            simp only [f2, f3, f4, f5, i1, j1, i2, j2, c4, n1, n2, c3, z10, gd_T, cd_F, cd_T, bn_s, or_true, true_or]
          · conv => lhs; unfold fn_X9_like_63
            unfold fn_X9_like_111 fn_X9_like_263
            simp only [e28, f1, t6, t7, f7, f8, f9, f10, k1, l1, c1, c2, z10, f2, f3, f4, f5, f6, k2, l2, c3, k3, l3, c4, gd_T, cd_F, cd_T, bn_s]
        · have c4' : ¬ nI (am i) = nI (am j) := by rw [n_eq (by omega) (by omega)]; exact c4
          obtain ⟨g, g1, g2, g3, g4⟩ := gcd_eq (S := T) (S' := M) a1 a2
          have g5 := g4 (by omega)
          have g6 : ¬ nI g ≤ 0 := by rw [n_lit, n_le (by omega) (by omega)]; omega
          have g7 : ¬ nI g = 0 := by rw [n_lit, n_eq (by omega) (by omega)]; omega
          have hadd := add_4 (N := 112) (a := (nI i).toInt64) (b := (nI j).toInt64) (c := (nI (am i) / nI g).toInt64) (e := (nI (am j) / nI g).toInt64) (hCk d.1 18 (by decide) rfl) h18 e.2.2.2.2.2.2.2.2.2.2.1 (hCr d.1 (by decide)) (hCk d.1 19 (by decide) rfl) (hCn d.1 19 (by decide) rfl) (by omega) (by decide)
          have h57 : gI M 0 57 = nI m := by rw [← h18]; exact e.2.2.2.2.2.2.2.2.2.2.2.2.2.1.symm
          have t0 : 4 * nI m = nI (m * 4) := by rw [n_lit, n_mul, Nat.mul_comm]
          have t1 : nI (m * 4) + 1 = nI (m * 4 + 1) := by rw [n_lit, n_add]
          have t2 : nI (m * 4) + 2 = nI (m * 4 + 2) := by rw [n_lit, n_add]
          have t3 : nI (m * 4) + 3 = nI (m * 4 + 3) := by rw [n_lit, n_add]
          have t4 : nI m + 1 = nI (m + 1) := by rw [n_lit, n_add]
          have u0 : vp_in (nI (m * 4)) 112 := (n_in (by omega)).mpr (by omega)
          have u1 : vp_in (nI (m * 4 + 1)) 112 := (n_in (by omega)).mpr (by omega)
          have u2 : vp_in (nI (m * 4 + 2)) 112 := (n_in (by omega)).mpr (by omega)
          have u3 : vp_in (nI (m * 4 + 3)) 112 := (n_in (by omega)).mpr (by omega)
          have v0 : (nI (m * 4)).toNatClampNeg = m * 4 := n_cl (by omega)
          have v1 : (nI (m * 4 + 1)).toNatClampNeg = m * 4 + 1 := n_cl (by omega)
          have v2 : (nI (m * 4 + 2)).toNatClampNeg = m * 4 + 2 := n_cl (by omega)
          have v3 : (nI (m * 4 + 3)).toNatClampNeg = m * 4 + 3 := n_cl (by omega)
          refine ⟨m + 1, sI (sJ (sJ (sJ (sJ T 19 (m * 4) (nI i).toInt64) 19 (m * 4 + 1) (nI j).toInt64) 19 (m * 4 + 2) (nI (am i) / nI g).toInt64) 19 (m * 4 + 3) (nI (am j) / nI g).toInt64) 18 2 (nI (m + 1)), sI (sI (sI (sI (sI M 39 (m * 4) (nI i)) 39 (m * 4 + 1) (nI j)) 39 (m * 4 + 2) (nI (am i) / nI g)) 39 (m * 4 + 3) (nI (am j) / nI g)) 0 57 (nI (m + 1)), ?_, ?_, Nat.le_refl _, ?_⟩
          · have hL : fn_X8_areLike (nI i) (nI j) x3 T = some (1, T) := by
              unfold fn_X8_areLike fn_X8_areLike_33 fn_X8_areLike_71 fn_X8_areLike_72
              simp only [f2, f3, f4, f5, i1, j1, i2, j2, c4', n1, n2, c3, z10, gd_T, cd_F, cd_T, bn_s, or_true, true_or]
            conv => lhs; unfold fn_X8_like_136
            rw [e16, cd_f f1, hL, bn2_s, cd_f z10]
            unfold fn_X8_addPair fn_X8_addPair_50 fn_X8_like_165
            simp only [f2, f3, f4, f5, f6, i2, j2, g1, g6, g7, hadd, gd_T, cd_F, bn_s, bn2_s, not_false_eq_true]
          · conv => lhs; unfold fn_X9_like_63
            unfold fn_X9_like_111 fn_X9_like_263
            have x1 : ∀ (S : HS) (j : Nat) (v : Int32), gI (sI S 39 j v) 0 57 = gI S 0 57 := fun S j v => by rw [sI_ne (by decide)]
            have x2 : ∀ (S : HS) (j : Nat) (v : Int32), gI (sI S 39 j v) 30 = gI S 30 := fun S j v => sI_ne (by decide)
            simp only [e28, f1, t6, t7, f7, f8, f9, f10, k1, l1, c1, c2, z10, f2, f3, f4, f5, f6, k2, l2, c3, k3, l3, c4', g2, g7, h57, t0, t1, t2, t3, t4, u0, u1, u2, u3, v0, v1, v2, v3, x1, x2, gd_T, cd_F, cd_T, bn_s, bn2_s, not_false_eq_true]
          · refine ⟨DRel_sI (by decide) (by decide) (by decide) (DRel_sJ (DRel_sJ (DRel_sJ (DRel_sJ d)))), ?_, ?_, sI_eq, fun q hq => hT q hq, fun q hq => ?_⟩
            · obtain ⟨⟨a1, a2, a3, a4, a5⟩, b1, b2, b3, b4, b5, b6, b7, b8, b9, b10, b11, b12, b13, b14, b15, b16, b17⟩ := e
              refine ⟨⟨a1, a2, a3, show vp_in (nI (m + 1)) 29 from (n_in (by omega)).mpr (by omega), a5⟩, b1, b2, b3, b4, b5, b6, b7, b8, b9, b10, b11, b12, rfl, b14, b15, ?_, b17⟩
              intro k' j' hk' hj'
              have hk' : k' < m + 1 := by
                have : (gI (sI (sI (sI (sI (sI M 39 (m * 4) (nI i)) 39 (m * 4 + 1) (nI j)) 39 (m * 4 + 2) (nI (am i) / nI g)) 39 (m * 4 + 3) (nI (am j) / nI g)) 0 57 (nI (m + 1))) 0 57).toNatClampNeg = m + 1 := by rw [sI_eq, n_cl (by omega)]
                rw [this] at hk'; exact hk'
              rw [gJ_sI, sI_ne (by decide)]
              rcases Nat.lt_or_ge k' m with l | l
              · rw [sJ_nk (by omega), sJ_nk (by omega), sJ_nk (by omega), sJ_nk (by omega), sI_nk (by omega), sI_nk (by omega), sI_nk (by omega), sI_nk (by omega)]
                exact b16 k' j' (by rw [h57, n_cl (by omega)]; exact l) hj'
              · have : k' = m := by omega
                subst this
                rw [Nat.mul_comm 4 k']
                rcases (by omega : j' = 0 ∨ j' = 1 ∨ j' = 2 ∨ j' = 3) with rfl | rfl | rfl | rfl
                · rw [sJ_nk (by omega), sJ_nk (by omega), sJ_nk (by omega), sI_nk (by omega), sI_nk (by omega), sI_nk (by omega)]
                  exact sJ_eq.trans (congrArg Int32.toInt64 sI_eq.symm)
                · rw [sJ_nk (by omega), sJ_nk (by omega), sI_nk (by omega), sI_nk (by omega)]
                  exact sJ_eq.trans (congrArg Int32.toInt64 sI_eq.symm)
                · rw [sJ_nk (by omega), sI_nk (by omega)]
                  exact sJ_eq.trans (congrArg Int32.toInt64 sI_eq.symm)
                · exact sJ_eq.trans (congrArg Int32.toInt64 sI_eq.symm)
            · exact ((((ms.tr (MS_sI (Or.inr (by decide)))).tr (MS_sI (Or.inr (by decide)))).tr (MS_sI (Or.inr (by decide)))).tr (MS_sI (Or.inr (by decide)))).tr (MS_s0 (by decide))
            · have := hM q hq
              rw [sI_ne (by decide), sI_ne (by decide), sI_ne (by decide), sI_ne (by decide), sI_ne (by decide), sI_ne (by decide), sI_ne (by decide), sI_ne (by decide), sI_ne (by decide), sI_ne (by decide), sI_ne (by decide), sI_ne (by decide), sI_ne (by decide), sI_ne (by decide), sI_ne (by decide)]
              exact this
    · rw [if_neg c2] at j1
      refine ⟨m, T, M, hskip8 ?_, ?_, by omega, h0⟩
      · unfold fn_X8_areLike fn_X8_areLike_32 fn_X8_areLike_33 fn_X8_areLike_71 fn_X8_areLike_72
        simp only [f2, f3, f4, f5, i1, j1, gd_T, cd_F, cd_T, bn_s, or_true, true_or]
        by_cases q : (if hv i = 1 then nI (pt i) else -1) = -1
        · exact cd_t q
        · exact cd_f q
      · conv => lhs; unfold fn_X9_like_63
        unfold fn_X9_like_110 fn_X9_like_111 fn_X9_like_263
        simp only [e28, f1, t6, t7, f7, f8, f9, f10, k1, l1, c1, c2, f6, gd_T, cd_F, cd_T, bn_s]
  · rw [if_neg c1] at i1
    refine ⟨m, T, M, hskip8 ?_, ?_, by omega, h0⟩
    · unfold fn_X8_areLike fn_X8_areLike_32 fn_X8_areLike_33 fn_X8_areLike_71 fn_X8_areLike_72
      simp only [f2, f3, f4, f5, i1, gd_T, cd_F, cd_T, bn_s, or_true, true_or]
    · conv => lhs; unfold fn_X9_like_63
      unfold fn_X9_like_110 fn_X9_like_111 fn_X9_like_263
      simp only [e28, f1, t6, f7, f9, k1, c1, f6, gd_T, cd_F, cd_T, bn_s]
theorem like_in {D : HS} {hv : Nat → Int32} {pt am : Nat → Nat} {LA NL : List Nat} {oA oL oN : Nat → Nat} (hpt : ∀ q, pt q < 300000) (ham : ∀ q, am q < 300000000) {k121 : Int32 → Int32 → HS → Option (Int32 × HS)} {k48 : Int32 → Int32 → HS → Option (Int32 × HS)} {x3 : Int32} {i : Nat} (hi : i < 8) : ∀ (r j m n n' : Nat) (T M : HS), j + r = qP D → i < j → r < n → r < n' → m ≤ vb i + (j - i - 1) → LT D hv pt am LA NL oA oL oN m T M →
    ∃ m' T' M', fn_X8_like_136 k121 n x3 (nI i) (nI j) T = k121 x3 (nI (i + 1)) T' ∧ fn_X9_like_63 k48 n' x3 (nI i) (nI j) M = k48 x3 (nI (i + 1)) M' ∧ m' ≤ vb (i + 1) ∧ LT D hv pt am LA NL oA oL oN m' T' M' := by
  have hb := vb_le hi
  have hs := vb_s (i := i)
  intro r
  induction r with
  | zero =>
    intro j m n n' T M e hij hn hn' hm h
    obtain ⟨n, rfl⟩ : ∃ k, n = k + 1 := ⟨n - 1, by omega⟩
    obtain ⟨n', rfl⟩ : ∃ k, n' = k + 1 := ⟨n' - 1, by omega⟩
    have hd := h.1.2.2.1
    have lP : qP D < 9 := (n_of_in hd.2.1).2
    have e16 : gI T 0 16 = nI (qP D) := h.1.2.2.2.2.2.2.2.2.2.2.1.trans (n_of_in hd.2.1).1
    have e28 : gI M 0 28 = nI (qP D) := by rw [h.2.2.1.2.2.1]; exact (n_of_in hd.2.1).1
    have e : j = qP D := by omega
    subst e
    refine ⟨m, T, M, ?_, ?_, by omega, h⟩
    · conv => lhs; unfold fn_X8_like_136
      rw [e16, cd_t (Int32.le_refl _), bn_s, show nI i + 1 = nI (i + 1) by rw [n_lit, n_add]]
    · conv => lhs; unfold fn_X9_like_63
      rw [e28, cd_t (Int32.le_refl _), bn_s, show nI i + 1 = nI (i + 1) by rw [n_lit, n_add]]
  | succ r ih =>
    intro j m n n' T M e hij hn hn' hm h
    obtain ⟨n, rfl⟩ : ∃ k, n = k + 1 := ⟨n - 1, by omega⟩
    obtain ⟨n', rfl⟩ : ∃ k, n' = k + 1 := ⟨n' - 1, by omega⟩
    have lP : qP D < 9 := (n_of_in h.1.2.2.1.2.1).2
    obtain ⟨m', T', M', q1, q2, q3, q4⟩ := like_step (k121 := k121) (k48 := k48) (x3 := x3) (n := n) (n' := n') hpt ham hij (by omega : j < qP D) (by omega) h
    rw [q1, q2]
    exact ih (j + 1) m' n n' T' M' (by omega) (by omega) (by omega) (by omega) (by omega) q4
theorem like_out {D : HS} {hv : Nat → Int32} {pt am : Nat → Nat} {LA NL : List Nat} {oA oL oN : Nat → Nat} (hpt : ∀ q, pt q < 300000) (ham : ∀ q, am q < 300000000) {x3 : Int32} : ∀ (r i m n n' : Nat) (T M : HS), i + r = qP D → r < n → r < n' → m ≤ vb i → LT D hv pt am LA NL oA oL oN m T M →
    ∃ r Z1 Z2, fn_X8_like_121 n x3 (nI i) T = some (r, Z1) ∧ fn_X9_like_48 n' x3 (nI i) M = some (r, Z2) ∧ RR 0 Z1 Z2 := by
  intro r
  induction r with
  | zero =>
    intro i m n n' T M e hn hn' hm h
    obtain ⟨n, rfl⟩ : ∃ k, n = k + 1 := ⟨n - 1, by omega⟩
    obtain ⟨n', rfl⟩ : ∃ k, n' = k + 1 := ⟨n' - 1, by omega⟩
    have hd := h.1.2.2.1
    have e16 : gI T 0 16 = nI (qP D) := h.1.2.2.2.2.2.2.2.2.2.2.1.trans (n_of_in hd.2.1).1
    have e28 : gI M 0 28 = nI (qP D) := by rw [h.2.2.1.2.2.1]; exact (n_of_in hd.2.1).1
    have e : i = qP D := by omega
    subst e
    refine ⟨gI T 18 2, T, M, ?_, ?_, h.2.1, LA, NL, oA, oL, oN, h.2.2.1.DRel h.1⟩
    · conv => lhs; unfold fn_X8_like_121
      rw [e16, cd_t (Int32.le_refl _)]
    · conv => lhs; unfold fn_X9_like_48
      rw [e28, cd_t (Int32.le_refl _), h.2.1.2.2.2.2.2.2.2.2.2.2.2.2.2.1]
  | succ r ih =>
    intro i m n n' T M e hn hn' hm h
    obtain ⟨n, rfl⟩ : ∃ k, n = k + 1 := ⟨n - 1, by omega⟩
    obtain ⟨n', rfl⟩ : ∃ k, n' = k + 1 := ⟨n' - 1, by omega⟩
    have hd := h.1.2.2.1
    have lP : qP D < 9 := (n_of_in hd.2.1).2
    have e16 : gI T 0 16 = nI (qP D) := h.1.2.2.2.2.2.2.2.2.2.2.1.trans (n_of_in hd.2.1).1
    have e28 : gI M 0 28 = nI (qP D) := by rw [h.2.2.1.2.2.1]; exact (n_of_in hd.2.1).1
    obtain ⟨m', T', M', q1, q2, q3, q4⟩ := like_in (k121 := fn_X8_like_121 n) (k48 := fn_X9_like_48 n') (x3 := x3) hpt ham (by omega : i < 8) (qP D - (i + 1)) (i + 1) m hFuel hFuel T M (by omega) (by omega) (by unfold hFuel; omega) (by unfold hFuel; omega) (by omega) h
    obtain ⟨r', Z1, Z2, z1, z2, z3⟩ := ih (i + 1) m' n n' T' M' (by omega) (by omega) (by omega) q3 q4
    have f1 : ¬ nI (qP D) ≤ nI i := by rw [n_le (by omega) (by omega)]; omega
    have f2 : nI i + 1 = nI (i + 1) := by rw [n_lit, n_add]
    refine ⟨r', Z1, Z2, ?_, ?_, z3⟩
    · conv => lhs; unfold fn_X8_like_121
      rw [e16, cd_f f1, bn_s, f2]
      exact q1.trans z1
    · conv => lhs; unfold fn_X9_like_48
      rw [e28, cd_f f1, bn_s, f2]
      exact q2.trans z2
/-- the class appraises every post -/
theorem like_30 {D : HS} {LA NL : List Nat} {oA oL oN : Nat → Nat} {K x3 : Int32} {day : Nat} (ld : day < 1200) : ∀ (i q m : Nat) (S : HS) (A : AA) (R : Nat → Option Nat) (sc : Option Nat), q + i = qP D → i < m → DRel S D LA NL oA oL oN → ERel S D → (∀ q', q' < q → gI S 22 q' = (if vv D K day q' 6 = 1 then dPts D (wl D K day) (vv D K day q') else -1) ∧ gI S 23 q' = aOf D K day q') →
    ∃ S' A' R' sc', fn_X8_like_30 m (nI day) K x3 (nI q) (mc S A R sc) = bn (fn_X5_clear 18 (mc S' A' R' sc')) (fun S1 => fn_X8_like_121 hFuel x3 0 S1) ∧ DRel S' D LA NL oA oL oN ∧ ERel S' D ∧ ∀ q', q' < qP D → gI S' 22 q' = (if vv D K day q' 6 = 1 then dPts D (wl D K day) (vv D K day q') else -1) ∧ gI S' 23 q' = aOf D K day q' := by
  intro i
  induction i with
  | zero =>
    intro q m S A R sc e hm d er h
    obtain ⟨m, rfl⟩ : ∃ k, m = k + 1 := ⟨m - 1, by omega⟩
    have hd := d.2.2.1
    have e16 : gI S 0 16 = nI (qP D) := d.2.2.2.2.2.2.2.2.2.2.1.trans (n_of_in hd.2.1).1
    have e : q = qP D := by omega
    subst e
    refine ⟨S, A, R, sc, ?_, d, er, h⟩
    conv => lhs; unfold fn_X8_like_30
    rw [mc_a0, e16, cd_t (Int32.le_refl _)]
  | succ i ih =>
    intro q m S A R sc e hm d er h
    obtain ⟨m, rfl⟩ : ∃ k, m = k + 1 := ⟨m - 1, by omega⟩
    have hd := d.2.2.1
    have lP : qP D < 9 := (n_of_in hd.2.1).2
    have e16 : gI S 0 16 = nI (qP D) := d.2.2.2.2.2.2.2.2.2.2.1.trans (n_of_in hd.2.1).1
    have hq : q < qP D := by omega
    obtain ⟨A1, R1, sc1, q1, q2⟩ := begin_C (A := A) (R := R) (sc := sc) (K := K) d hq
    obtain ⟨A2, R2, sc2, r1, r2⟩ := goTo_0 d hq ld q2
    obtain ⟨h7, h8, h9, h10, h11, h14, h15, h16, h17, hv, hq', hL, h12, hap⟩ := r2
    have hW := wl_WOK hd K day
    have hcg := d_cg hW (V := A2 13) (V' := vv D K day q) (fun j hj => hv j (by omega))
    have f1 : vp_in 6 9 := (n_in (a := 6) (by decide)).mpr (by decide)
    have f2 : (6 : Int32).toNatClampNeg = 6 := rfl
    have f3 : vp_in (nI q) 8 := (n_in (by omega)).mpr (by omega)
    have f4 : (nI q).toNatClampNeg = q := n_cl (by omega)
    have f5 : nI q + 1 = nI (q + 1) := by rw [n_lit, n_add]
    have p2 : A2 12 2 = dPts D (wl D K day) (vv D K day q) := hap.2.1.trans hcg.1
    have p6 : A2 12 6 = aOf D K day q := by
      rw [hap.2.2.2.2.2.1, hcg.2.2.2.2.2]
      rfl
    obtain ⟨S', A', R', sc', z1, z2, z3, z4⟩ := ih (q + 1) m (sI (sI S 22 q (if vv D K day q 6 = 1 then dPts D (wl D K day) (vv D K day q) else -1)) 23 q (aOf D K day q)) A2 R2 sc2 (by omega) (by omega) (DRel_sI (by decide) (by decide) (fun z => absurd z (by decide)) (DRel_sI (by decide) (by decide) (fun z => absurd z (by decide)) d)) (EC.ERel (S := S) ⟨rfl, rfl, rfl, rfl, rfl, rfl, rfl, rfl, rfl, rfl, rfl⟩ er) (fun q' hq' => by
      by_cases c : q' = q
      · subst c
        rw [sI_ne (by decide), sI_eq, sI_eq]
        exact ⟨rfl, rfl⟩
      · rw [sI_ne (by decide), sI_nk c, sI_nk c, sI_ne (by decide)]
        exact h q' (by omega))
    refine ⟨S', A', R', sc', ?_, z2, z3, z4⟩
    rw [← z1]
    conv => lhs; unfold fn_X8_like_30
    rw [mc_a0, e16, cd_f (by rw [n_le (by omega) (by omega)]; omega), q1, bn_s, r1, bn_s]
    unfold fn_X7_isHeld fn_X7_isHeld_16 fn_X8_like_87
    simp only [f1, f2, f3, f4, f5, gd_T, mc_a13, hv 6 (by decide), or_true, true_or, mc_a12, p2, p6, bn_s, mc_so (show 22 < 9 ∨ 15 ≤ 22 by decide), mc_so (show 23 < 9 ∨ 15 ≤ 23 by decide)]
    by_cases c : vv D K day q 6 = 1
    · rw [cd_t c, bn2_s, cd_f z10, if_pos c, mc_a12, p2, mc_so (by decide), mc_a12, p6, mc_so (by decide)]
    · rw [cd_f c, bn2_s, cd_t rfl, if_neg c, mc_so (by decide), mc_a12, p6, mc_so (by decide)]
theorem m_like (x1 x2 x3 : Int32) : LIi RR (fn_X8_like x1 x2 x3) (fn_X9_like x1 x2 x3) := by
  refine LIi_of (fun SC SM hr => ?_)
  have hr' := RR_t hr
  obtain ⟨e, LA, NL, oA, oL, oN, d⟩ := hr
  unfold fn_X8_like fn_X9_like fn_X8_like_25 fn_X9_like_32
  simp only [bn_s]
  rcases isDay_C x1 with ⟨v1, i1, i2⟩ | ⟨i1, i2⟩
  · rcases isKnown_C e.2.1 e.1.1 x2 with ⟨v2, _, i3, i4⟩ | ⟨i3, i4⟩
    · simp only [i1, i2, bn2_s, i3 SC rfl, i4 (sI SM 0 0 0) (sI_nk (by decide)), z10, cd_F]
      by_cases c0 : x3 < 0
      · exact ⟨_, _, _, cd_t c0, cd_t c0, hr'⟩
      by_cases c1 : x3 ≤ 99999
      · obtain ⟨day, ld, rfl⟩ := n_ex v1
        rw [cd_f c0, cd_f c0, cd_t c1, cd_t c1]
        have d' : DRel SC (sI SM 0 0 0) LA NL oA oL oN := (MS_s0 (by decide)).DRel d
        have e' : ERel SC (sI SM 0 0 0) := ES_t.ERel e
        generalize sI SM 0 0 0 = D at *
        have hd := d'.2.2.1
        have lP : qP D < 9 := (n_of_in hd.2.1).2
        have hW := wl_WOK hd x2 day
        obtain ⟨S', A', R', sc', q1, q2, q3, q4⟩ := like_30 (K := x2) (x3 := x3) ld (qP D) 0 hFuel SC (gI SC) (gR SC 8) (gR SC 12 0) (by omega) (by unfold hFuel; omega) d' e' (fun q' h => absurd h (Nat.not_lt_zero _))
        rw [mc_self] at q1
        obtain ⟨A3, J3, s1, s2⟩ := passes_0 (last := day + 1) hd x2 (x2 := nI day) (by rw [n_int (by omega)]; omega) (by omega)
        obtain ⟨t1, t2, t3, t4, t5, t6⟩ := s2
        have hP : ∀ q, dPts D (wl D x2 day) (vv D x2 day q) = nI (Int32.toNatClampNeg (dPts D (wl D x2 day) (vv D x2 day q))) ∧ Int32.toNatClampNeg (dPts D (wl D x2 day) (vv D x2 day q)) < 300000 := fun q => by
          obtain ⟨m, lm, em⟩ := dPts_b (V := vv D x2 day q) hW
          rw [em, n_cl (by omega)]
          exact ⟨rfl, lm⟩
        have hAm : ∀ q, aOf D x2 day q = nI (Int32.toNatClampNeg (aOf D x2 day q)) ∧ Int32.toNatClampNeg (aOf D x2 day q) < 300000000 := fun q => by
          have lsa := (sa_b (D := D) (K := x2) (who := per D q) day).1
          obtain ⟨m, lm, em⟩ := dAm_b (V := vv D x2 day q) hW (by omega : (sa D x2 (per D q) day).1 < 2147483648)
          unfold aOf
          rw [em, n_cl (by omega)]
          exact ⟨rfl, lm⟩
        have hlt : LT D (fun q => vv D x2 day q 6) (fun q => Int32.toNatClampNeg (dPts D (wl D x2 day) (vv D x2 day q))) (fun q => Int32.toNatClampNeg (aOf D x2 day q)) LA NL oA oL oN 0 (sI (mc S' A' R' sc') 18 2 0) (sI (mk D A3 J3) 0 57 0) := by
          refine ⟨DRel_sI (by decide) (by decide) (by decide) (mc_DRel q2), ?_, mk_MS.tr (MS_s0 (by decide)), sI_eq, fun q hq => ?_, fun q hq => ?_⟩
          · obtain ⟨⟨a1, a2, a3, a4, a5⟩, b1, b2, b3, b4, b5, b6, b7, b8, b9, b10, b11, b12, b13, b14, b15, b16, b17⟩ := q3
            exact ⟨⟨a1, a2, a3, show vp_in (nI 0) 29 from (n_in (by decide)).mpr (by decide), a5⟩, b1, b2, b3, b4, b5, b6, b7, b8, b9, b10, b11, b12, rfl, b14, b15, fun k j hk hj => absurd hk (Nat.not_lt_zero k), b17⟩
          · obtain ⟨u1, u2⟩ := q4 q hq
            rw [sI_ne (by decide), sI_ne (by decide), mc_hi (by decide), mc_hi (by decide), u1, u2]
            exact ⟨by rw [← (hP q).1], (hAm q).1⟩
          · obtain ⟨o1, o2, o3, o4, o5, o6, o7, o8⟩ := t6 (by omega) q hq
            rw [sI_ne (by decide), sI_ne (by decide), sI_ne (by decide), mk_a23, mk_a26, mk_a30, t1 q 6 (by omega) (by decide), o1, o5]
            exact ⟨rfl, (hP q).1, (hAm q).1⟩
        obtain ⟨r, Z1, Z2, z1, z2, z3⟩ := like_out (D := D) (hv := fun q => vv D x2 day q 6) (pt := fun q => Int32.toNatClampNeg (dPts D (wl D x2 day) (vv D x2 day q))) (am := fun q => Int32.toNatClampNeg (aOf D x2 day q)) (LA := LA) (NL := NL) (oA := oA) (oL := oL) (oN := oN) (fun q => (hP q).2) (fun q => (hAm q).2) (x3 := x3) (qP D) 0 0 hFuel hFuel (sI (mc S' A' R' sc') 18 2 0) (sI (mk D A3 J3) 0 57 0) (by omega) (by unfold hFuel; omega) (by unfold hFuel; omega) (Nat.le_refl _) hlt
        refine ⟨r, Z1, Z2, ?_, ?_, z3⟩
        · refine Eq.trans q1 ?_
          unfold fn_X5_clear
          rw [gd_t (hCk (κ := 6) (mc_hC q2.1) 18 (by decide) rfl)]
          exact z1
        · rw [s1, bn_s]
          exact z2
      · exact ⟨_, _, _, (cd_f c0).trans (cd_f c1), (cd_f c0).trans (cd_f c1), hr'⟩
    · simp only [i1, i2, bn2_s, i3 SC rfl, i4 (sI SM 0 0 0) (sI_nk (by decide)), z10, cd_F, cd_T]
      exact ⟨_, _, _, rfl, rfl, hr'⟩
  · simp only [i1, i2, bn2_s, cd_T]
    exact ⟨_, _, _, rfl, rfl, hr'⟩
