/-! both sides read a text -/
theorem and_in (x : Int32) : x &&& 255 = nI (Int32.toNatClampNeg (x &&& 255)) ∧ Int32.toNatClampNeg (x &&& 255) < 256 := by
  have h : ((x &&& 255 : Int32).toBitVec).toNat ≤ 255 := by
    rw [Int32.toBitVec_and, BitVec.toNat_and]; exact Nat.and_le_right
  have h2 : (x &&& 255 : Int32).toInt = (((x &&& 255 : Int32).toBitVec).toNat : Int) := BitVec.toInt_eq_toNat_of_lt (by omega)
  have h : vp_in (x &&& 255) 256 := by
    refine n_lo ?_ ?_ (by decide)
    · rw [t_lt, h2]
      have : (0 : Int32).toInt = 0 := rfl
      omega
    · rw [t_le, h2]
      have : (nI 256).toInt = 256 := rfl
      omega
  exact n_of_in h
theorem begin_22 : ∀ (i k m : Nat) (S : HS), k + i = 156 → i < m → ∃ S', fn_X4_begin_22 m (nI k) S = bn (fn_X4_advance S') (fun S1 => some S1) ∧ (∀ c, c ≠ 3 → gI S' c = gI S c) ∧ (∀ j, k ≤ j → j < 156 → gI S' 3 j = 0) ∧ (∀ j, j < k → gI S' 3 j = gI S 3 j) ∧ gR S' = gR S ∧ gJ S' = gJ S ∧ gK S' = gK S ∧ gN S' = gN S ∧ gZ S' = gZ S := by
  intro i
  induction i with
  | zero =>
    intro k m S hk hm
    obtain ⟨m, rfl⟩ : ∃ q, m = q + 1 := ⟨m - 1, by omega⟩
    refine ⟨S, ?_, fun _ _ => rfl, fun j h1 h2 => by omega, fun _ _ => rfl, rfl, rfl, rfl, rfl, rfl⟩
    rw [fn_X4_begin_22, cd_t (by rw [n_le (by omega) (by omega)]; omega)]
  | succ i ih =>
    intro k m S hk hm
    obtain ⟨m, rfl⟩ : ∃ q, m = q + 1 := ⟨m - 1, by omega⟩
    obtain ⟨S', q1, q2, q3, q4, q5, q6, q7, q8, q9⟩ := ih (k + 1) m (sI S 3 k 0) (by omega) (by omega)
    refine ⟨S', ?_, fun c hc => (q2 c hc).trans (sI_ne hc), fun j h1 h2 => ?_, fun j h1 => (q4 j (by omega)).trans (sI_nk (by omega)), q5, q6, q7, q8, q9⟩
    · rw [fn_X4_begin_22, cd_f (by rw [n_le (by omega) (by omega)]; omega), gd_t ((n_in (by omega)).mpr (by omega)), n_cl (by omega), bn_s, bn_s, show nI k + 1 = nI (k + 1) by rw [n_lit, n_add]]
      exact q1
    · by_cases c : j = k
      · rw [c, q4 k (by omega), sI_eq]
      · exact q3 j (by omega) h2
theorem read_both {b : Nat → Nat} {N F : Nat} {S M : HS} (hc : hC S) (hfr : hFr S) (lN : N ≤ 2000) (hb : ∀ j, j < 2000 → gI S 1 j &&& 255 = nI (b j) ∧ b j < 256) (hbM : ∀ j, j < 2000 → gI M 1 j = nI (b j)) (h17 : gI M 0 17 = nI N) (h7 : vp_in (gI M 0 7) 13) (h4 : gI M 4 (qA M) = nI F) (hF : F + 40 ≤ 480) :
    ∃ S' M', fn_X4_read (nI N) S = some (some (gZ S), S') ∧ fn_X9_parses M = some M' ∧ ((∃ ys, ys.length ≤ 40 ∧ PX S' M' b N ∧ INV F (gZ S) ys S M S' M' ∧ gZ S < gZ S') ∨ (PF S' M' b N ∧ INVF (gZ S) S S' ∧ MB F M M')) := by
  have hZ : 65 ≤ gZ S := hc.1
  generalize hl : gZ S = l at *
  -- the class makes its list and begins
  have k1 : gK (aN S 11 0) l = 11 := by rw [gK_aN, if_pos hl.symm]
  have k2 : gR (aN S 11 0) l 1 = none := by rw [gR_aN, if_pos hl.symm]
  have hini : fl_init l (aN S 11 0) = some (sK (sI (aN S 11 0) l 0 0) l 0) := by
    unfold fl_init; rw [gd_t ⟨k1, k2⟩]
  generalize hS2 : sK (sI (aN S 11 0) l 0 0) l 0 = S2 at *
  have g1 : ∀ c, c ≠ l → gI S2 c = gI S c := fun c hc => by
    rw [← hS2]; show gI (sI (aN S 11 0) l 0 0) c = _; rw [sI_ne hc]; funext j; rw [gI_aN, if_neg (by omega)]
  have g1l : gI S2 l 2 = 0 := by
    rw [← hS2]; show gI (sI (aN S 11 0) l 0 0) l 2 = _; rw [sI_nk (by decide), gI_aN, if_pos hl.symm]
  have g2 : ∀ c, c ≠ l → gR S2 c = gR S c := fun c hc => by
    rw [← hS2]; funext j; show gR (aN S 11 0) c j = _; rw [gR_aN, if_neg (by omega)]
  have g2l : gR S2 l 1 = none := by rw [← hS2]; exact k2
  have g3 : ∀ c, c ≠ l → gJ S2 c = gJ S c := fun c hc => by
    rw [← hS2]; funext j; show gJ (aN S 11 0) c j = _; rw [gJ_aN, if_neg (by omega)]
  have g4 : ∀ c, gK S2 c = if c = l then 0 else gK S c := fun c => by
    rw [← hS2, gK_sK]
    by_cases z : c = l
    · rw [if_pos z, if_pos z]
    · rw [if_neg z, if_neg z]; show gK (aN S 11 0) c = _; rw [gK_aN, if_neg (by omega)]
  have g5 : ∀ c, c ≠ l → gN S2 c = gN S c := fun c hc => by
    rw [← hS2]; show gN (aN S 11 0) c = _; rw [gN_aN, if_neg (by omega)]
  have g6 : gZ S2 = l + 1 := by rw [← hS2]; show gZ S + 1 = _; rw [hl]
  have g7 : hC S2 := by rw [← hS2]; exact hC_sK (hC_sI (hC_aN hc 11 0)) hZ
  have g8 : hFr S2 := fun c z => by rw [g6] at z; rw [g4, if_neg (by omega)]; exact hfr c (by omega)
  obtain ⟨S4, q1, q2, q3, q4, q5, q6, q7, q8, q9⟩ := begin_22 156 0 hFuel (sI (sI (sI (sI S2 2 2 (nI N)) 2 4 0) 2 6 0) 2 7 (-1)) (by omega) (by unfold hFuel; omega)
  have q5 : gR S4 = gR S2 := q5
  have q6 : gJ S4 = gJ S2 := q6
  have q7 : gK S4 = gK S2 := q7
  have q8 : gN S4 = gN S2 := q8
  have q9 : gZ S4 = gZ S2 := q9
  have t2 : gI S4 2 2 = nI N := by rw [q2 2 (by decide), sI_nk (by decide), sI_nk (by decide), sI_nk (by decide), sI_eq]
  have t4 : gI S4 2 4 = nI 0 := by rw [q2 2 (by decide), sI_nk (by decide), sI_nk (by decide), sI_eq]; rfl
  have t6 : gI S4 2 6 = 0 := by rw [q2 2 (by decide), sI_nk (by decide), sI_eq]
  have t7 : gI S4 2 7 = -1 := by rw [q2 2 (by decide), sI_eq]
  have to : ∀ c, c ≠ 3 → c ≠ 2 → gI S4 c = gI S2 c := fun c z1 z2 => by rw [q2 c z1, sI_ne z2, sI_ne z2, sI_ne z2, sI_ne z2]
  have hCL : CL S4 b N := ⟨t2, lN, fun j hj => by rw [to 1 (by decide) (by decide), g1 1 (by omega)]; exact hb j hj⟩
  obtain ⟨S5, u1, u2, u3, u4, u5⟩ := adv_C hCL (Nat.zero_le N) t4
  have hbeg : fn_X4_begin (nI N) S2 = some S5 := by
    unfold fn_X4_begin
    rw [bn_s, bn_s, bn_s, bn_s]
    refine q1.trans ?_
    rw [u1, bn_s]
  -- the reference begins
  have r7 : ∀ (v w x : Int32), gI (sI (sI (sI M 0 18 v) 0 22 w) 0 23 x) 0 7 = gI M 0 7 := fun v w x => by rw [sI_nk (by decide), sI_nk (by decide), sI_nk (by decide)]
  have hpar : fn_X9_parses M = bn (fn_X9_next (sI (sI (sI (sI M 0 18 0) 0 22 0) 0 23 (-1)) 0 26 (nI F))) (fun S7 => fn_X9_parses_34 hFuel (nI F) S7) := by
    unfold fn_X9_parses
    rw [bn_s, bn_s, bn_s, gd_t (by rw [r7]; exact h7), bn_s, r7, sI_ne (by decide), sI_ne (by decide), sI_ne (by decide)]
    have : gI M 4 (Int32.toNatClampNeg (gI M 0 7)) = nI F := h4
    rw [this, bn_s]
  generalize hM6 : sI (sI (sI (sI M 0 18 0) 0 22 0) 0 23 (-1)) 0 26 (nI F) = M6 at *
  have c0 : ∀ c, c ≠ 0 → gI M6 c = gI M c := fun c z => by rw [← hM6, sI_ne z, sI_ne z, sI_ne z, sI_ne z]
  have c1 : ∀ j, j ≠ 18 → j ≠ 22 → j ≠ 23 → j ≠ 26 → gI M6 0 j = gI M 0 j := fun j z1 z2 z3 z4 => by rw [← hM6, sI_nk z4, sI_nk z3, sI_nk z2, sI_nk z1]
  have cJ : gJ M6 = gJ M := by rw [← hM6]; rfl
  have c18 : gI M6 0 18 = nI 0 := by rw [← hM6, sI_nk (by decide), sI_nk (by decide), sI_nk (by decide), sI_eq]; rfl
  have c22 : gI M6 0 22 = 0 := by rw [← hM6, sI_nk (by decide), sI_nk (by decide), sI_eq]
  have c23 : gI M6 0 23 = -1 := by rw [← hM6, sI_nk (by decide), sI_eq]
  have c26 : gI M6 0 26 = nI F := by rw [← hM6, sI_eq]
  have hML : ML M6 b N := ⟨by rw [c1 17 (by decide) (by decide) (by decide) (by decide)]; exact h17, lN, fun j hj => ⟨by rw [c0 1 (by decide)]; exact hbM j hj, (hb j hj).2⟩⟩
  obtain ⟨M7, v1, v2, v3, v4, v5, v6, v7⟩ := next_M hML (Nat.zero_le N) c18
  have hPX : PX S5 M7 b N := ⟨_, u5, ⟨hML.keep v2, v5, v6, v7⟩, u3.trans t6, v3.trans c22, by rw [u4, t7, v4, c23]⟩
  have z5 : gZ S5 = l + 1 := by rw [u2.2.2.2.2.2.2, q9, g6]
  have hINVF : INVF l S S5 := by
    refine ⟨?_, ?_, fun c z1 z2 z3 => ?_, fun c z1 => ⟨?_, ?_, ?_, ?_⟩, by omega⟩
    · refine u2.z.2.2.2.1 ?_
      unfold hC at *
      rw [q5, q7, q8, q9]; exact g7
    · refine u2.z.2.2.2.2 ?_
      unfold hFr at *
      rw [q7, q9]; exact g8
    · rw [u2.1 c z2, to c z3 z2, g1 c (by omega)]
    · rw [u2.2.2.1, q5, g2 c (by omega)]
    · rw [u2.2.2.2.1, q6, g3 c (by omega)]
    · rw [u2.2.2.2.2.1, q7, g4, if_neg (by omega)]
    · rw [u2.2.2.2.2.2.1, q8, g5 c (by omega)]
  have hMB : MB F M M7 := ⟨fun c _ z2 => (v2.1 c z2).trans (c0 c z2), fun c j z1 _ _ => by rw [v2.1 c z1, c0 c z1], fun j _ => by rw [v2.1 12 (by decide), c0 12 (by decide)], fun j z => (v2.2.1 j (by omega)).trans (c1 j (by omega) (by omega) (by omega) (by omega)), v2.2.2.trans cJ⟩
  have hINV : INV F l [] S M S5 M7 := by
    refine ⟨hINVF, hMB, ⟨?_, ?_, Or.inl ⟨?_, rfl⟩⟩, fun d hd => ?_, fun i hi => absurd hi (Nat.not_lt_zero i), fun k hk => ⟨Or.inl ?_, fun z => ?_, fun ⟨i, hi, _⟩ => absurd hi (Nat.not_lt_zero i)⟩, ?_⟩
    · rw [u2.2.2.2.2.1, q7, g4, if_pos rfl]
    · rw [u2.1 l (by omega), to l (by omega) (by omega), g1l]; rfl
    · rw [u2.2.2.1, q5]; exact g2l
    · rw [u2.2.2.1, q5, g2l] at hd; cases hd
    · rw [u2.1 3 (by decide)]; exact q3 k (Nat.zero_le k) hk
    · rw [u2.1 3 (by decide), q3 k (Nat.zero_le k) hk] at z; exact absurd z (by decide)
    · rw [v2.2.1 26 (by omega), c26]; rfl
  obtain ⟨S', M', w1, w2, w3⟩ := read_loop (b := b) (N := N) (S0 := S) (D := M) hZ hF 40 [] S5 M7 1 3 hFuel hFuel rfl (by unfold hFuel; omega) (by unfold hFuel; omega) (by omega) hINV hPX (by simp) (by simp)
  refine ⟨S', M', ?_, ?_, w3⟩
  · unfold fn_X4_read
    rw [bn_s, hl, hini, bn_s, hbeg, bn_s]; exact w1
  · rw [hpar, v1, bn_s]; exact w2
