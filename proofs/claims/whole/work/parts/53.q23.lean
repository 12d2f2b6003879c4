/-! run -/
theorem cmp0 {x : Int64} : lg_cmp x 0 = 0 ↔ x = 0 := by
  unfold lg_cmp
  constructor
  · intro h
    split at h
    · exact absurd h (by decide)
    · split at h
      · assumption
      · exact absurd h (by decide)
  · rintro rfl
    rw [if_neg (by decide), if_pos rfl]
def RT (D : HS) (today : Nat) (LA NL : List Nat) (oA oL oN : Nat → Nat) (n : Nat) (S M : HS) : Prop := DRel S D LA NL oA oL oN ∧ ERel (sI S 0 17 (gI S 0 17 + 1)) M ∧ MS D M ∧ gI S 16 2 = nI n ∧ gI M 0 3 = nI today ∧ ∀ q mo, q < qP D → mo < 40 → gJ M 34 (40 * q + mo) = dsum D (nI today) q mo today
theorem run_step {D : HS} {today : Nat} {LA NL : List Nat} {oA oL oN : Nat → Nat} {k17 : Int32 → Int32 → HS → Option (Int32 × HS)} {k36 : Int32 → HS → Option (Int32 × HS)} {p mo n f f' : Nat} {S M : HS} {A : AA} {R : Nat → Option Nat} {sc : Option Nat} (lt : today < 1200) (hp : p < qP D) (hm : mo < today / 30) (hn : n ≤ 40 * p + mo) (h : RT D today LA NL oA oL oN n S M) (hc : CI D oL (nI today) p LA NL (30 * mo) A R sc) :
    ∃ n' S' A' R' sc' M', fn_X8_run_39 k17 (f + 1) (nI (today / 30)) (nI p) (nI mo) (mc S A R sc) = fn_X8_run_39 k17 f (nI (today / 30)) (nI p) (nI (mo + 1)) (mc S' A' R' sc') ∧ fn_X9_run_46 k36 (f' + 1) (nI p) (nI mo) M = fn_X9_run_46 k36 f' (nI p) (nI (mo + 1)) M' ∧ n' ≤ 40 * p + (mo + 1) ∧ RT D today LA NL oA oL oN n' S' M' ∧ CI D oL (nI today) p LA NL (30 * (mo + 1)) A' R' sc' := by
  obtain ⟨d, e, ms, h16, h3, hJ⟩ := h
  have hd := d.2.2.1
  have lP : qP D < 9 := (n_of_in hd.2.1).2
  obtain ⟨A1, R1, sc1, q1, q2⟩ := payDays_0 (n := 30) d hp (by omega : 30 * mo + 30 < 1201) hc
  rw [show 30 * mo + 30 = 30 * (mo + 1) by omega] at q2
  have hsum : gJ M 34 (40 * p + mo) = psum D (nI today) p (30 * mo) 30 := by
    rw [hJ p mo hp (by omega)]
    unfold dsum
    rw [show min 30 (today - 30 * mo) = 30 by omega]
  have hpaid : gJ S 15 (40 * p + mo) = gJ M 35 (40 * p + mo) := e.2.2.2.2.2.2.2.2.1 _ (by omega)
  generalize psum D (nI today) p (30 * mo) 30 = sum at *
  have t1 : nI p * 40 + nI mo = nI (40 * p + mo) := by rw [n_lit, n_mul, n_add, Nat.mul_comm]
  have t2 : 40 * nI p + nI mo = nI (40 * p + mo) := by rw [n_lit, n_mul, n_add]
  have f1 : ¬ nI (today / 30) ≤ nI mo := by rw [n_le (by omega) (by omega)]; omega
  have f2 : ¬ nI (40 * p + mo) < 0 := n_ge0 (by omega)
  have f3 : nI (40 * p + mo) < nI 320 := by rw [n_lt (by omega) (by omega)]; omega
  have f4 : vp_in (nI (40 * p + mo)) 320 := (n_in (by omega)).mpr (by omega)
  have f5 : (nI (40 * p + mo)).toNatClampNeg = 40 * p + mo := n_cl (by omega)
  have f6 : nI mo + 1 = nI (mo + 1) := by rw [n_lit, n_add]
  have f7 : nI today / 30 = nI (today / 30) := by rw [n_lit, n_div (by omega) (by omega)]
  by_cases c : sum - gJ M 35 (40 * p + mo) = 0
  · have c' := cmp0.mpr c
    refine ⟨n, S, A1, R1, sc1, M, ?_, ?_, by omega, ⟨d, e, ms, h16, h3, hJ⟩, q2⟩
    · conv => lhs; unfold fn_X8_run_39
      rw [cd_f f1, show (30 : Int32) = nI 30 from rfl, q1, bn2_s]
      unfold fn_X8_settle fn_X8_settle_64
      simp only [t1, f2, f3, f4, f5, f6, mc_J, hpaid, c', cd_F, cd_T, gd_T, bn_s]
    · conv => lhs; unfold fn_X9_run_46
      unfold fn_X9_run_145
      simp only [h3, f7, f1, t2, f4, f5, f6, hsum, c', cd_F, cd_T, gd_T, bn_s]
  · have c' : ¬ lg_cmp (sum - gJ M 35 (40 * p + mo)) 0 = 0 := fun z => c (cmp0.mp z)
    have e54 : gI M 0 54 = nI n := by rw [← h16]; exact e.2.2.2.2.2.2.2.2.2.2.2.2.1.symm
    have ec : gJ M 35 (40 * p + mo) + (sum - gJ M 35 (40 * p + mo)) = sum := by rw [Int64.add_comm, Int64.sub_add_cancel]
    have g1 : vp_in (nI n) 320 := (n_in (by omega)).mpr (by omega)
    have g2 : (nI n).toNatClampNeg = n := n_cl (by omega)
    have g3 : nI n + 1 = nI (n + 1) := by rw [n_lit, n_add]
    have hadd := add_3 (S := mc (sJ S 15 (40 * p + mo) sum) A1 R1 sc1) (r := 16) (d := 17) (N := 960) (m := n) (a := (nI p).toInt64) (b := (nI mo).toInt64) (c := sum - gJ M 35 (40 * p + mo)) (e := 0) (hCk (κ := 6) (mc_hC (A := A1) (R := R1) (sc := sc1) d.1) 16 (by decide) rfl) h16 (show gI S 16 0 = 3 from e.2.2.2.2.2.2.2.2.2.1) (hCr (mc_hC (A := A1) (R := R1) (sc := sc1) d.1) (by decide)) (hCk (mc_hC (A := A1) (R := R1) (sc := sc1) d.1) 17 (by decide) rfl) (hCn (mc_hC (A := A1) (R := R1) (sc := sc1) d.1) 17 (by decide) rfl) (by omega) (by decide)
    rw [mc_sJ, mc_sJ, mc_sJ, mc_so (by decide)] at hadd
    refine ⟨n + 1, sI (sJ (sJ (sJ (sJ S 15 (40 * p + mo) sum) 17 (n * 3) (nI p).toInt64) 17 (n * 3 + 1) (nI mo).toInt64) 17 (n * 3 + 2) (sum - gJ M 35 (40 * p + mo))) 16 2 (nI (n + 1)), A1, R1, sc1, sI (sJ (sI (sI (sJ M 35 (40 * p + mo) sum) 36 n (nI p)) 37 n (nI mo)) 38 n (sum - gJ M 35 (40 * p + mo))) 0 54 (nI (n + 1)), ?_, ?_, by omega, ?_, q2⟩
    · conv => lhs; unfold fn_X8_run_39
      rw [cd_f f1, show (30 : Int32) = nI 30 from rfl, q1, bn2_s]
      unfold fn_X8_settle fn_X8_settle_64
      simp only [t1, f2, f3, f4, f5, f6, mc_J, hpaid, c', mc_sJ, hadd, cd_F, cd_T, gd_T, bn_s]
    · conv => lhs; unfold fn_X9_run_46
      unfold fn_X9_run_145
      have x1 : ∀ (S : HS) (j : Nat) (v : Int32), gI (sI S 36 j v) 0 54 = gI S 0 54 := fun S j v => by rw [sI_ne (by decide)]
      have x2 : ∀ (S : HS) (j : Nat) (v : Int32), gI (sI S 37 j v) 0 54 = gI S 0 54 := fun S j v => by rw [sI_ne (by decide)]
      simp only [h3, f7, f1, t2, f4, f5, f6, hsum, c', ec, gI_sJ, x1, x2, e54, g1, g2, g3, cd_F, gd_T, bn_s]
    · refine ⟨DRel_sI (by decide) (by decide) (by decide) (DRel_sJ (DRel_sJ (DRel_sJ (DRel_sJ d)))), ?_, ?_, sI_eq, h3, fun q mo' z1 z2 => hJ q mo' z1 z2⟩
      · obtain ⟨⟨a1, a2, a3, a4, a5⟩, b1, b2, b3, b4, b5, b6, b7, b8, b9, b10, b11, b12, b13, b14, b15, b16, b17⟩ := e
        refine ⟨⟨a1, a2, show vp_in (nI (n + 1)) 321 from (n_in (by omega)).mpr (by omega), a4, a5⟩, b1, b2, b3, b4, b5, b6, b7, ?_, b9, b10, b11, rfl, b13, b14, ?_, b16, b17⟩
        · intro j hj
          have := b8 j hj
          by_cases ej : j = 40 * p + mo
          · subst ej
            rw [gJ_sI, gJ_sI, sJ_ne (by decide), sJ_ne (by decide), sJ_ne (by decide), sJ_eq, gJ_sI, sJ_ne (by decide), gJ_sI, gJ_sI, sJ_eq]
          · rw [gJ_sI, gJ_sI, sJ_ne (by decide), sJ_ne (by decide), sJ_ne (by decide), sJ_nk ej, gJ_sI, sJ_ne (by decide), gJ_sI, gJ_sI, sJ_nk ej]
            exact this
        · intro k hk
          have hk : k < n + 1 := by
            have : (gI (sI (sJ (sI (sI (sJ M 35 (40 * p + mo) sum) 36 n (nI p)) 37 n (nI mo)) 38 n (sum - gJ M 35 (40 * p + mo))) 0 54 (nI (n + 1))) 0 54).toNatClampNeg = n + 1 := by rw [sI_eq, n_cl (by omega)]
            rw [this] at hk; exact hk
          rw [gJ_sI, gJ_sI, gJ_sI, sI_ne (show 36 ≠ 0 by decide), sI_ne (show 37 ≠ 0 by decide), gI_sJ, sI_ne (show 36 ≠ 37 by decide)]
          rcases Nat.lt_or_ge k n with l | l
          · have := b15 k (by rw [e54, n_cl (by omega)]; exact l)
            refine ⟨?_, ?_, ?_⟩
            · rw [sJ_nk (by omega), sJ_nk (by omega), sJ_nk (by omega), sJ_ne (show 17 ≠ 15 by decide), sI_nk (by omega)]; exact this.1
            · rw [sJ_nk (by omega), sJ_nk (by omega), sJ_nk (by omega), sJ_ne (show 17 ≠ 15 by decide), sI_nk (by omega)]; exact this.2.1
            · rw [sJ_nk (by omega), sJ_nk (by omega), sJ_nk (by omega), sJ_ne (show 17 ≠ 15 by decide), sJ_nk (by omega)]; exact this.2.2
          · have : k = n := by omega
            subst this
            rw [Nat.mul_comm 3 k]
            refine ⟨?_, ?_, ?_⟩
            · rw [sJ_nk (by omega), sJ_nk (by omega), sI_eq]; exact sJ_eq
            · rw [sJ_nk (by omega), sI_eq]; exact sJ_eq
            · rw [sJ_eq, sJ_eq]
      · exact ⟨fun c z1 z2 => by
          rw [sI_ne (by omega), gI_sJ, sI_ne (by omega), sI_ne (by omega), gI_sJ]; exact ms.1 c z1 z2, ms.2.1, ms.2.2.1, ms.2.2.2⟩
theorem run_in {D : HS} {today : Nat} {LA NL : List Nat} {oA oL oN : Nat → Nat} {k17 : Int32 → Int32 → HS → Option (Int32 × HS)} {k36 : Int32 → HS → Option (Int32 × HS)} {p : Nat} (lt : today < 1200) (hp : p < qP D) : ∀ (r mo n f f' : Nat) (S M : HS) (A : AA) (R : Nat → Option Nat) (sc : Option Nat), mo + r = today / 30 → r < f → r < f' → n ≤ 40 * p + mo → RT D today LA NL oA oL oN n S M → CI D oL (nI today) p LA NL (30 * mo) A R sc →
    ∃ n' S' A' R' sc' M', fn_X8_run_39 k17 f (nI (today / 30)) (nI p) (nI mo) (mc S A R sc) = k17 (nI (today / 30)) (nI (p + 1)) (mc S' A' R' sc') ∧ fn_X9_run_46 k36 f' (nI p) (nI mo) M = k36 (nI (p + 1)) M' ∧ n' ≤ 40 * (p + 1) ∧ RT D today LA NL oA oL oN n' S' M' := by
  intro r
  induction r with
  | zero =>
    intro mo n f f' S M A R sc e hf hf' hn h hc
    obtain ⟨f, rfl⟩ : ∃ k, f = k + 1 := ⟨f - 1, by omega⟩
    obtain ⟨f', rfl⟩ : ∃ k, f' = k + 1 := ⟨f' - 1, by omega⟩
    have e : mo = today / 30 := by omega
    subst e
    refine ⟨n, S, A, R, sc, M, ?_, ?_, by omega, h⟩
    · conv => lhs; unfold fn_X8_run_39
      have lP : qP D < 9 := (n_of_in h.1.2.2.1.2.1).2
      rw [cd_t (Int32.le_refl _), bn_s, show nI p + 1 = nI (p + 1) by rw [n_lit, n_add]]
    · conv => lhs; unfold fn_X9_run_46
      rw [h.2.2.2.2.1, show nI today / 30 = nI (today / 30) by rw [n_lit, n_div (by omega) (by omega)], cd_t (Int32.le_refl _), bn_s, show nI p + 1 = nI (p + 1) by rw [n_lit, n_add]]
  | succ r ih =>
    intro mo n f f' S M A R sc e hf hf' hn h hc
    obtain ⟨f, rfl⟩ : ∃ k, f = k + 1 := ⟨f - 1, by omega⟩
    obtain ⟨f', rfl⟩ : ∃ k, f' = k + 1 := ⟨f' - 1, by omega⟩
    obtain ⟨n', S', A', R', sc', M', q1, q2, q3, q4, q5⟩ := run_step (k17 := k17) (k36 := k36) (f := f) (f' := f') lt hp (by omega : mo < today / 30) hn h hc
    rw [q1, q2]
    exact ih (mo + 1) n' f f' S' M' A' R' sc' (by omega) (by omega) (by omega) q3 q4 q5
theorem run_out {D : HS} {today : Nat} {LA NL : List Nat} {oA oL oN : Nat → Nat} (lt : today < 1200) : ∀ (r p n f f' : Nat) (S M : HS) (A : AA) (R : Nat → Option Nat) (sc : Option Nat), p + r = qP D → r < f → r < f' → n ≤ 40 * p → RT D today LA NL oA oL oN n S M →
    ∃ r Z1 Z2, fn_X8_run_17 f (nI (today / 30)) (nI p) (mc S A R sc) = some (r, Z1) ∧ fn_X9_run_36 f' (nI p) M = some (r, Z2) ∧ RR 0 Z1 Z2 := by
  intro r
  induction r with
  | zero =>
    intro p n f f' S M A R sc e hf hf' hn h
    obtain ⟨f, rfl⟩ : ∃ k, f = k + 1 := ⟨f - 1, by omega⟩
    obtain ⟨f', rfl⟩ : ∃ k, f' = k + 1 := ⟨f' - 1, by omega⟩
    have hd := h.1.2.2.1
    have e16 : gI S 0 16 = nI (qP D) := h.1.2.2.2.2.2.2.2.2.2.2.1.trans (n_of_in hd.2.1).1
    have e28 : gI M 0 28 = nI (qP D) := by rw [h.2.2.1.2.2.1]; exact (n_of_in hd.2.1).1
    have e : p = qP D := by omega
    subst e
    refine ⟨gI M 0 54, mc (sI S 0 17 (gI S 0 17 + 1)) A R sc, M, ?_, ?_, mc_EC.ERel h.2.1, LA, NL, oA, oL, oN, h.2.2.1.DRel (mc_DRel (DRel_sI (by decide) (by decide) (by decide) h.1))⟩
    · conv => lhs; unfold fn_X8_run_17
      rw [mc_a0, e16, cd_t (Int32.le_refl _), bn_s, mc_a0, mc_so (by decide)]
      have := h.2.1.2.2.2.2.2.2.2.2.2.2.2.2.1
      rw [← this]
      rfl
    · conv => lhs; unfold fn_X9_run_36
      rw [e28, cd_t (Int32.le_refl _)]
  | succ r ih =>
    intro p n f f' S M A R sc e hf hf' hn h
    obtain ⟨f, rfl⟩ : ∃ k, f = k + 1 := ⟨f - 1, by omega⟩
    obtain ⟨f', rfl⟩ : ∃ k, f' = k + 1 := ⟨f' - 1, by omega⟩
    have hd := h.1.2.2.1
    have lP : qP D < 9 := (n_of_in hd.2.1).2
    have e16 : gI S 0 16 = nI (qP D) := h.1.2.2.2.2.2.2.2.2.2.2.1.trans (n_of_in hd.2.1).1
    have e28 : gI M 0 28 = nI (qP D) := by rw [h.2.2.1.2.2.1]; exact (n_of_in hd.2.1).1
    have e13 : gI S 0 13 = nI today := by
      have : gI S 0 13 = gI M 0 3 := h.2.1.2.1
      rw [this]; exact h.2.2.2.2.1
    have hp : p < qP D := by omega
    obtain ⟨A1, R1, sc1, q1, q2⟩ := begin_C (A := A) (R := R) (sc := sc) (K := nI today) h.1 hp
    obtain ⟨n', S', A', R', sc', M', r1, r2, r3, r4⟩ := run_in (k17 := fn_X8_run_17 f) (k36 := fn_X9_run_36 f') lt hp (today / 30) 0 n hFuel hFuel S M A1 R1 sc1 (by omega) (by unfold hFuel; omega) (by unfold hFuel; omega) (by omega) h q2
    obtain ⟨r', Z1, Z2, z1, z2, z3⟩ := ih (p + 1) n' f f' S' M' A' R' sc' (by omega) (by omega) (by omega) r3 r4
    have f1 : ¬ nI (qP D) ≤ nI p := by rw [n_le (by omega) (by omega)]; omega
    refine ⟨r', Z1, Z2, ?_, ?_, z3⟩
    · conv => lhs; unfold fn_X8_run_17
      rw [mc_a0, e16, cd_f f1, mc_a0, e13, q1, bn_s]
      exact r1.trans z1
    · conv => lhs; unfold fn_X9_run_36
      rw [e28, cd_f f1]
      exact r2.trans z2
theorem m_run : LIi RR fn_X8_run fn_X9_run := by
  refine LIi_of (fun SC SM hr => ?_)
  obtain ⟨e, LA, NL, oA, oL, oN, d⟩ := hr
  unfold fn_X8_run fn_X9_run
  simp only [bn_s]
  have hms : MS SM (sI (sI (sI SM 0 0 0) 0 55 (gI (sI SM 0 0 0) 0 55 + 1)) 0 54 0) := ((MS_s0 (by decide)).tr (MS_s0 (by decide))).tr (MS_s0 (by decide))
  have d' := hms.DRel d
  have e55 : gI (sI SM 0 0 0) 0 55 = gI SM 0 55 := sI_nk (by decide)
  have e3 : gI (sI (sI (sI SM 0 0 0) 0 55 (gI (sI SM 0 0 0) 0 55 + 1)) 0 54 0) 0 3 = gI SM 0 3 := rfl
  rw [e3, e55]
  rw [e55] at d'
  obtain ⟨today, lt, et⟩ := n_ex e.1.1
  have hd := d'.2.2.1
  have hER : ERel (sI (sI SC 16 2 0) 0 17 (gI (sI SC 16 2 0) 0 17 + 1)) (sI (sI (sI SM 0 0 0) 0 55 (gI SM 0 55 + 1)) 0 54 0) := by
    obtain ⟨⟨a1, a2, a3, a4, a5⟩, b1, b2, b3, b4, b5, b6, b7, b8, b9, b10, b11, b12, b13, b14, b15, b16, b17⟩ := e
    exact ⟨⟨a1, a2, show vp_in (nI 0) 321 from (n_in (by decide)).mpr (by decide), a4, a5⟩, b1, b2, b3, congrArg (· + 1) b4, b5, b6, b7, b8, b9, b10, b11, rfl, b13, b14, fun k hk => absurd hk (Nat.not_lt_zero k), b16, b17⟩
  generalize hD : sI (sI (sI SM 0 0 0) 0 55 (gI SM 0 55 + 1)) 0 54 0 = D at *
  have eD3 : gI D 0 3 = nI today := by rw [← hD]; exact et
  have lP : qP D < 9 := (n_of_in hd.2.1).2
  rw [et]
  obtain ⟨A3, J3, s1, s2⟩ := passes_0 (last := today) hd (nI today) (x2 := nI today - 1) (by
    have h1 : (1 : Int32).toInt = 1 := rfl
    rw [t_sub (by rw [n_int (by omega), h1]; omega) (by rw [n_int (by omega), h1]; omega), n_int (by omega), h1]) (by omega)
  have hrt : RT D today LA NL oA oL oN 0 (sI SC 16 2 0) (mk D A3 J3) := ⟨DRel_sI (by decide) (by decide) (by decide) d', mk_ES.ERel hER, mk_MS, sI_eq, eD3, fun q mo z1 z2 => s2.2.2.2.2.1 q mo z1 z2⟩
  obtain ⟨r, Z1, Z2, z1, z2, z3⟩ := run_out lt (qP D) 0 0 hFuel hFuel (sI SC 16 2 0) (mk D A3 J3) (gI (sI SC 16 2 0)) (gR (sI SC 16 2 0) 8) (gR (sI SC 16 2 0) 12 0) (by omega) (by unfold hFuel; omega) (by unfold hFuel; omega) (by omega) hrt
  rw [mc_self] at z1
  refine ⟨r, Z1, Z2, ?_, ?_, z3⟩
  · unfold fn_X5_clear
    rw [gd_t (hCk (κ := 6) d'.1 16 (by decide) rfl), bn_s, bn_s]
    have e13 : gI (sI SC 16 2 0) 0 13 = nI today := by
      have : gI (sI SC 16 2 0) 0 13 = gI SC 0 13 := rfl
      rw [this, e.2.1, et]
    rw [e13, show nI today / 30 = nI (today / 30) by rw [n_lit, n_div (by omega) (by omega)]]
    exact z1
  · rw [s1, bn_s]
    exact z2
