/-! cost -/
def csm (D : HS) (K : Int32) (a b : Nat) : Nat → Int64
  | 0 => 0
  | q + 1 => csm D K a b q + psum D K q (30 * a) (30 * (b - a + 1))
theorem cost_37 {SC D : HS} {LA NL : List Nat} {oA oL oN : Nat → Nat} {K : Int32} (d : DRel SC D LA NL oA oL oN) {a b : Nat} (hab : a ≤ b) (hb : b < 40) : ∀ (i q m : Nat) (A : AA) (R : Nat → Option Nat) (sc : Option Nat), q + i = qP D → i < m → ∃ A' R' sc', fn_X8_cost_37 m (nI a) (nI b) K (csm D K a b q) (nI q) (mc SC A R sc) = some (csm D K a b (qP D), mc SC A' R' sc') := by
  have hd := d.2.2.1
  have lP : qP D < 9 := (n_of_in hd.2.1).2
  have e16 : gI SC 0 16 = nI (qP D) := d.2.2.2.2.2.2.2.2.2.2.1.trans (n_of_in hd.2.1).1
  intro i
  induction i with
  | zero =>
    intro q m A R sc e hm
    obtain ⟨m, rfl⟩ : ∃ k, m = k + 1 := ⟨m - 1, by omega⟩
    have e : q = qP D := by omega
    subst e
    refine ⟨A, R, sc, ?_⟩
    conv => lhs; unfold fn_X8_cost_37
    rw [mc_a0, e16, cd_t (Int32.le_refl _)]
  | succ i ih =>
    intro q m A R sc e hm
    obtain ⟨m, rfl⟩ : ∃ k, m = k + 1 := ⟨m - 1, by omega⟩
    obtain ⟨A1, R1, sc1, q1⟩ := due_C (A := A) (R := R) (sc := sc) (K := K) d (by omega : q < qP D) hab hb
    obtain ⟨A2, R2, sc2, r1⟩ := ih (q + 1) m A1 R1 sc1 (by omega) (by omega)
    refine ⟨A2, R2, sc2, ?_⟩
    rw [← r1]
    conv => lhs; unfold fn_X8_cost_37
    rw [mc_a0, e16, cd_f (by rw [n_le (by omega) (by omega)]; omega), q1, bn2_s, bn_s, bn_s, show nI q + 1 = nI (q + 1) by rw [n_lit, n_add]]
    rfl
theorem cost_62 {D : HS} {K : Int32} {a b q : Nat} {S : HS} {k50 : Int32 → Int32 → Int64 → Int32 → HS → Option (Int64 × HS)} (hb : b < 40) (hq : q < 8) (hJ : ∀ mo, mo < 40 → gJ S 34 (40 * q + mo) = dsum D K q mo (30 * b + 30)) : ∀ (i mo m : Nat), mo + i = b + 1 → a ≤ mo → i < m → fn_X9_cost_62 k50 m (nI a) (nI b) (csm D K a b q + psum D K q (30 * a) (30 * (mo - a))) (nI q) (nI mo) S = k50 (nI a) (nI b) (csm D K a b q + psum D K q (30 * a) (30 * (b + 1 - a))) (nI (q + 1)) S := by
  intro i
  induction i with
  | zero =>
    intro mo m e ha hm
    obtain ⟨m, rfl⟩ : ∃ k, m = k + 1 := ⟨m - 1, by omega⟩
    have e : mo = b + 1 := by omega
    subst e
    conv => lhs; unfold fn_X9_cost_62
    rw [cd_t (by rw [n_lt (by omega) (by omega)]; omega), bn_s, show nI q + 1 = nI (q + 1) by rw [n_lit, n_add]]
  | succ i ih =>
    intro mo m e ha hm
    obtain ⟨m, rfl⟩ : ∃ k, m = k + 1 := ⟨m - 1, by omega⟩
    rw [← ih (mo + 1) m (by omega) (by omega) (by omega)]
    conv => lhs; unfold fn_X9_cost_62
    have t : 40 * nI q + nI mo = nI (40 * q + mo) := by rw [n_lit, n_mul, n_add]
    rw [cd_f (by rw [n_lt (by omega) (by omega)]; omega), t, gd_t ((n_in (by omega)).mpr (by omega)), n_cl (by omega), bn_s, bn_s, show nI mo + 1 = nI (mo + 1) by rw [n_lit, n_add], hJ mo (by omega), Int64.add_assoc]
    have e2 : psum D K q (30 * a) (30 * (mo - a)) + dsum D K q mo (30 * b + 30) = psum D K q (30 * a) (30 * (mo + 1 - a)) := by
      unfold dsum
      rw [show 30 * (mo + 1 - a) = 30 * (mo - a) + 30 by omega, psum_add, show 30 * a + 30 * (mo - a) = 30 * mo by omega, show min 30 (30 * b + 30 - 30 * mo) = 30 by omega]
    rw [e2]
theorem cost_50 {D : HS} (hd : DOK D) {K : Int32} {a b : Nat} {S : HS} (hab : a ≤ b) (hb : b < 40) (h28 : gI S 0 28 = nI (qP D)) (hJ : ∀ q mo, q < qP D → mo < 40 → gJ S 34 (40 * q + mo) = dsum D K q mo (30 * b + 30)) : ∀ (i q m : Nat), q + i = qP D → i < m → fn_X9_cost_50 m (nI a) (nI b) (csm D K a b q) (nI q) S = some (csm D K a b (qP D), S) := by
  have lP : qP D < 9 := (n_of_in hd.2.1).2
  intro i
  induction i with
  | zero =>
    intro q m e hm
    obtain ⟨m, rfl⟩ : ∃ k, m = k + 1 := ⟨m - 1, by omega⟩
    have e : q = qP D := by omega
    subst e
    conv => lhs; unfold fn_X9_cost_50
    rw [h28, cd_t (Int32.le_refl _)]
  | succ i ih =>
    intro q m e hm
    obtain ⟨m, rfl⟩ : ∃ k, m = k + 1 := ⟨m - 1, by omega⟩
    rw [← ih (q + 1) m (by omega) (by omega)]
    conv => lhs; unfold fn_X9_cost_50
    rw [h28, cd_f (by rw [n_le (by omega) (by omega)]; omega)]
    have := cost_62 (a := a) (k50 := fn_X9_cost_50 m) hb (by omega : q < 8) (fun mo hm => hJ q mo (by omega) hm) (b + 1 - a) a hFuel (by omega) (Nat.le_refl _) (by unfold hFuel; omega)
    rw [Nat.sub_self, Nat.mul_zero, show psum D K q (30 * a) 0 = 0 from rfl, Int64.add_zero, show b + 1 - a = b - a + 1 by omega] at this
    exact this
theorem m_cost (x1 x2 x3 : Int32) : LIl RR (fn_X8_cost x1 x2 x3) (fn_X9_cost x1 x2 x3) := by
  refine LIl_of (fun SC SM hr => ?_)
  have hr' := RR_t hr
  obtain ⟨e, LA, NL, oA, oL, oN, d⟩ := hr
  unfold fn_X8_cost fn_X9_cost fn_X8_cost_27 fn_X9_cost_28
  simp only [bn_s]
  have q40 : (40 : Int32).toInt = 40 := rfl
  have q39 : (39 : Int32).toInt = 39 := rfl
  have q0 : (0 : Int32).toInt = 0 := rfl
  rcases isMonth_C SC x1 with ⟨b1, b2, b3, b4⟩ | ⟨b2, b3⟩
  · rcases isMonth_C SC x2 with ⟨g1, g2, g3, g4⟩ | ⟨g2, g3⟩
    · by_cases c : x2 < x1
      · simp only [b2, g2, bn2_s, z10, cd_F, cd_T, b3, g4, c]
        exact ⟨_, _, _, rfl, rfl, hr'⟩
      · rcases isKnown_C e.2.1 e.1.1 x3 with ⟨v2, _, i3, i4⟩ | ⟨i3, i4⟩
        · simp only [b2, g2, bn2_s, z10, cd_F, cd_T, b3, g4, c, i3 SC rfl, i4 (sI SM 0 0 0) (sI_nk (by decide))]
          obtain ⟨a, la, rfl⟩ := n_ex b1
          obtain ⟨b, lb, rfl⟩ := n_ex g1
          rw [n_lt (by omega) (by omega)] at c
          have d' : DRel SC (sI SM 0 0 0) LA NL oA oL oN := (MS_s0 (by decide)).DRel d
          generalize sI SM 0 0 0 = D at *
          have hd := d'.2.2.1
          have lP : qP D < 9 := (n_of_in hd.2.1).2
          have t9 : 30 * nI b + 29 = nI (30 * b + 29) := by rw [n_lit, n_mul, n_lit, n_add]
          obtain ⟨A3, J3, s1, s2⟩ := passes_0 (last := 30 * b + 30) hd x3 (x2 := nI (30 * b + 29)) (by rw [n_int (by omega)]; omega) (by omega)
          obtain ⟨A2, R2, sc2, r1⟩ := cost_37 (K := x3) d' (by omega : a ≤ b) lb (qP D) 0 hFuel (gI SC) (gR SC 8) (gR SC 12 0) (by omega) (by unfold hFuel; omega)
          rw [mc_self] at r1
          refine ⟨_, _, mk D A3 J3, r1, ?_, mk_RR (mc_RR hr')⟩
          rw [t9, s1, bn_s]
          exact cost_50 (S := mk D A3 J3) (K := x3) hd (by omega) lb (n_of_in hd.2.1).1 (fun q mo z1 z2 => s2.2.2.2.2.1 q mo z1 z2) (qP D) 0 hFuel (by omega) (by unfold hFuel; omega)
        · simp only [b2, g2, bn2_s, z10, cd_F, cd_T, b3, g4, c, i3 SC rfl, i4 (sI SM 0 0 0) (sI_nk (by decide))]
          exact ⟨_, _, _, rfl, rfl, hr'⟩
    · simp only [b2, g2, bn2_s, z10, cd_F, cd_T, b3]
      refine ⟨_, _, _, rfl, ?_, hr'⟩
      by_cases c1 : 39 < x2
      · exact cd_t c1
      · refine (cd_f c1).trans (cd_t ?_)
        have := g3.resolve_right c1
        rw [t_lt] at *
        omega
  · simp only [b2, bn2_s, cd_T]
    refine ⟨_, _, _, rfl, ?_, hr'⟩
    by_cases c0 : x1 < 0
    · exact cd_t c0
    by_cases c1 : 39 < x2
    · exact (cd_f c0).trans (cd_t c1)
    · refine (cd_f c0).trans ((cd_f c1).trans (cd_t ?_))
      have := b3.resolve_left c0
      rw [t_lt] at *
      omega
/-! common divisors -/
theorem cd8_step {S : HS} {x y t m : Nat} (hx : x < 2147483648) (hy : y < 2147483648) (h0 : y ≠ 0) (ht : t < 64) : fn_X8_commonDivisor_7 (m + 1) (nI x) (nI y) (nI t) S = fn_X8_commonDivisor_7 m (nI y) (nI (x % y)) (nI (t + 1)) S := by
  conv => lhs; unfold fn_X8_commonDivisor_7
  have f0 : ¬ nI y = 0 := by rw [n_lit, n_eq hy (by decide)]; exact h0
  rw [cd_f (by rw [n_lit, n_le (by omega) (by omega)]; omega), cd_f f0, gd_t f0, bn_s, bn_s, n_mod hx hy, show nI t + 1 = nI (t + 1) by rw [n_lit, n_add]]
theorem cd8_end {S : HS} {x t m : Nat} : fn_X8_commonDivisor_7 (m + 1) (nI x) (nI 0) (nI t) S = some (nI x, S) := by
  conv => lhs; unfold fn_X8_commonDivisor_7
  unfold fn_X8_commonDivisor_34
  rw [cd_t (show nI 0 = 0 from rfl)]
  by_cases q : (64 : Int32) ≤ nI t
  · exact cd_t q
  · exact cd_f q
theorem cd9_step {S : HS} {x y m : Nat} (hx : x < 2147483648) (hy : y < 2147483648) (h0 : y ≠ 0) : fn_X9_common_4 (m + 1) (nI x) (nI y) S = fn_X9_common_4 m (nI y) (nI (x % y)) S := by
  conv => lhs; unfold fn_X9_common_4
  have f0 : ¬ nI y = 0 := by rw [n_lit, n_eq hy (by decide)]; exact h0
  rw [cd_f (by rw [n_lit, n_le hy (by decide)]; omega), gd_t f0, bn_s, n_mod hx hy]
theorem cd9_end {S : HS} {x m : Nat} : fn_X9_common_4 (m + 1) (nI x) (nI 0) S = some (nI x, S) := by
  conv => lhs; unfold fn_X9_common_4
  exact cd_t (by decide)
theorem mod_half {y r n : Nat} (h1 : r < y) (h0 : r ≠ 0) (hy : y < 2 * n) : y % r < n := by
  have a := Nat.mod_lt y (show 0 < r by omega)
  have b : y % r ≤ y - r := by
    rw [Nat.mod_eq_sub_mod (by omega : y ≥ r)]
    exact Nat.mod_le _ _
  omega
theorem gcd_both {S S' : HS} : ∀ (n x y t m m' : Nat), x < 2147483648 → y < 2147483648 → y < 2 ^ n → t + 2 * n ≤ 62 → 2 * n < m → 2 * n < m' → ∃ g, fn_X8_commonDivisor_7 m (nI x) (nI y) (nI t) S = some (nI g, S) ∧ fn_X9_common_4 m' (nI x) (nI y) S' = some (nI g, S') ∧ g < 2147483648 ∧ (x ≠ 0 ∨ y ≠ 0 → 1 ≤ g) := by
  intro n
  induction n with
  | zero =>
    intro x y t m m' hx hy hn ht hm hm'
    obtain ⟨m, rfl⟩ : ∃ k, m = k + 1 := ⟨m - 1, by omega⟩
    obtain ⟨m', rfl⟩ : ∃ k, m' = k + 1 := ⟨m' - 1, by omega⟩
    have : y = 0 := by rw [Nat.pow_zero] at hn; omega
    subst this
    exact ⟨x, cd8_end, cd9_end, hx, fun h => by omega⟩
  | succ n ih =>
    intro x y t m m' hx hy hn ht hm hm'
    obtain ⟨m, rfl⟩ : ∃ k, m = k + 1 := ⟨m - 1, by omega⟩
    obtain ⟨m', rfl⟩ : ∃ k, m' = k + 1 := ⟨m' - 1, by omega⟩
    by_cases c : y = 0
    · subst c
      exact ⟨x, cd8_end, cd9_end, hx, fun h => by omega⟩
    · rw [cd8_step hx hy c (by omega), cd9_step hx hy c]
      have hr := Nat.mod_lt x (show 0 < y by omega)
      obtain ⟨m, rfl⟩ : ∃ k, m = k + 1 := ⟨m - 1, by omega⟩
      obtain ⟨m', rfl⟩ : ∃ k, m' = k + 1 := ⟨m' - 1, by omega⟩
      by_cases c2 : x % y = 0
      · rw [c2]
        exact ⟨y, cd8_end, cd9_end, hy, fun h => by omega⟩
      · have hr2 := Nat.mod_lt y (show 0 < x % y by omega)
        rw [cd8_step hy (by omega) c2 (by omega), cd9_step hy (by omega) c2]
        rw [Nat.pow_succ, Nat.mul_comm] at hn
        obtain ⟨g, g1, g2, g3, g4⟩ := ih (x % y) (y % (x % y)) (t + 1 + 1) m m' (by omega) (by omega) (mod_half hr c2 hn) (by omega) (by omega) (by omega)
        exact ⟨g, g1, g2, g3, fun _ => g4 (Or.inl c2)⟩
theorem gcd_eq {S S' : HS} {x y : Nat} (hx : x < 300000000) (hy : y < 300000000) : ∃ g, fn_X8_commonDivisor (nI x) (nI y) S = some (nI g, S) ∧ fn_X9_common (nI x) (nI y) S' = some (nI g, S') ∧ g < 2147483648 ∧ (x ≠ 0 ∨ y ≠ 0 → 1 ≤ g) :=
  gcd_both 29 x y 0 hFuel hFuel (by omega) (by omega) (by have : 2 ^ 29 = 536870912 := by decide
                                                          omega) (by omega) (by decide) (by decide)
