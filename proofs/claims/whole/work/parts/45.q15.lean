/-! the class's appraisal of a post -/
def WC (D : HS) (oL : Nat → Nat) (W : Nat → Option Nat) (R : Nat → Option Nat) : Prop := ∀ k, k < 156 → (R k = none ∧ W k = none) ∨ ∃ n, R k = some (oL n) ∧ n < qL D (qA D) ∧ qK D n = k ∧ W k = if gI D 6 n = 0 then some n else none
theorem WC_of {D : HS} (hd : DOK D) {oL : Nat → Nat} {K : Int32} {d : Nat} {R : Nat → Option Nat} (h : ∀ k, k < 156 → R k = (wins D d K k).map (fun q => oL q.2)) : WC D oL (wl D K d) R := by
  intro k hk
  rw [h k hk]
  unfold wl
  cases hw : wins D d K k with
  | none => exact Or.inl ⟨rfl, rfl⟩
  | some q =>
    have := wins_mem hd hw
    exact Or.inr ⟨q.2, rfl, this.2.1, this.2.2.1, rfl⟩
section CAPP
variable {S D : HS} {LA NL : List Nat} {oA oL oN : Nat → Nat} {sc : Option Nat} {W : Nat → Option Nat} {R : Nat → Option Nat} {A : AA}
theorem lineOf_C (d : DRel S D LA NL oA oL oN) (hW : WC D oL W R) {s n : Nat} (hs : s < 6) (hn : n < 26) : fn_X6_lineOf (nI s) (nI n) (mc S A R sc) = some ((W (26 * s + n)).map oL, mc S A R sc) := by
  have t : nI s * 26 + nI n = nI (26 * s + n) := by rw [n_lit, n_mul, n_add, Nat.mul_comm]
  have f1 : ¬ nI n < 0 := n_ge0 (by omega)
  have f2 : nI n < 26 := by rw [n_lit, n_lt (by omega) (by omega)]; omega
  have f3 : ¬ nI (26 * s + n) < 0 := n_ge0 (by omega)
  have f4 : ¬ nI 156 ≤ nI (26 * s + n) := by rw [n_le (by omega) (by omega)]; omega
  have f5 : vp_in (nI (26 * s + n)) 156 := (n_in (by omega)).mpr (by omega)
  have f6 : (nI (26 * s + n)).toNatClampNeg = 26 * s + n := n_cl (by omega)
  unfold fn_X6_lineOf fn_X6_lineOf_42 fn_X6_lineOf_57 fn_X6_lineOf_63
  simp only [t, f1, f2, f3, f4, f5, f6, cd_F, cd_T, gd_T, bn_s, mc_w]
  rcases hW (26 * s + n) (by omega) with ⟨h1, h2⟩ | ⟨l, h1, h2, h3, h4⟩
  · rw [h1, h2]; rfl
  · obtain ⟨r1, r2, r3, r4, r5, _⟩ := d.2.2.2.2.2.2.2.2.1 l h2
    rw [h1, h4, cs_some, bn_s, mc_K, gd_t r2, mc_hi (by omega), r5]
    by_cases c : gI D 6 l = 0
    · rw [cd_t c, if_pos c]; rfl
    · rw [cd_f c, if_neg c]; rfl
theorem lineOf_n {s : Int32} : fn_X6_lineOf s (-1) (mc S A R sc) = some (none, mc S A R sc) := by
  unfold fn_X6_lineOf fn_X6_lineOf_10
  rw [cd_t (by decide)]
theorem L_num (d : DRel S D LA NL oA oL oN) {k n : Nat} (hG : GL D k n) : 65 ≤ oL n ∧ gK S (oL n) = 3 ∧ (k / 26 ≠ 2 → gI S (oL n) 8 = gI D 10 n) ∧ gI S (oL n) 9 = gI D 11 n := by
  obtain ⟨r1, r2, r3, r4, r5, r6, r7, r8⟩ := d.2.2.2.2.2.2.2.2.1 n hG.1
  have h := r8 hG.2.2.2.1
  rw [hG.2.2.1] at h
  exact ⟨r1, r2, h.1, h.2.1⟩
theorem numberOf_C (d : DRel S D LA NL oA oL oN) (hO : WOK D W) (hW : WC D oL W R) {s : Nat} (hs : s < 6) (h2 : s ≠ 2) (z : Int32) : fn_X6_numberOf (nI s) z (mc S A R sc) = some (dNo D W (26 * s) z, mc S A R sc) := by
  unfold fn_X6_numberOf fn_X6_numberOf_19 dNo
  have hl := lineOf_C (A := A) (sc := sc) d hW hs (by decide : 0 < 26)
  rw [Nat.add_zero] at hl
  rw [show (0 : Int32) = nI 0 from rfl, hl, bn2_s]
  cases hw : W (26 * s) with
  | none => rfl
  | some n =>
    obtain ⟨l1, l2, l3, l4⟩ := L_num d (hO _ _ hw)
    show gd (gK (mc S A R sc) (oL n) = 3) (some (gI (mc S A R sc) (oL n) 8, mc S A R sc)) = _
    rw [mc_K, gd_t l2, mc_hi (by omega), l3 (by omega)]
    rfl
theorem holds_C (d : DRel S D LA NL oA oL oN) {k n : Nat} (hG : GL D k n) : fn_X2_holds (oL n) (mc S A R sc) = some (if hol D (A 13) n then 1 else 0, mc S A R sc) := by
  obtain ⟨r1, r2, r3, r4, r5, r6, r7, r8⟩ := d.2.2.2.2.2.2.2.2.1 n hG.1
  have g5 : gI (mc S A R sc) (oL n) 5 = gI D 7 n := by rw [mc_hi (by omega), r6]
  unfold fn_X2_holds fn_X2_holds_16 fn_X2_holds_47 fn_X2_holds_86 hol
  simp only [mc_K, r2, g5, gd_T, bn_s, mc_a13, or_true, true_or]
  by_cases c : gI D 7 n = -1
  · rw [if_pos c, c, cd_t (by decide)]; rfl
  · obtain ⟨g6, g7⟩ := r7 c
    obtain ⟨j, lj, ej⟩ := n_ex (hG.2.2.2.2.2.2.2.2.2.resolve_left c)
    have g6' : gI (mc S A R sc) (oL n) 6 = gI D 8 n := by rw [mc_hi (by omega), g6]
    have g7' : gI (mc S A R sc) (oL n) 7 = gI D 9 n := by rw [mc_hi (by omega), g7]
    rw [if_neg c, ej, cd_f (n_ge0 (by omega)), cd_t (by rw [n_lt (by omega) (by omega)]; omega), gd_t ((n_in (by omega)).mpr (by omega)), n_cl (by omega), g6', g7']
    by_cases c1 : gI D 8 n = 60
    · rw [cd_t c1, if_pos c1]
      by_cases c2 : A 13 j < gI D 9 n
      · rw [cd_f (by simpa using c2), if_pos (by simpa using c2)]
      · rw [cd_t (by simpa using c2), if_neg (by simpa using c2)]
    · rw [cd_f c1, if_neg c1]
      by_cases c3 : gI D 8 n = 62
      · rw [cd_t c3, if_pos c3]
        by_cases c2 : gI D 9 n < A 13 j
        · rw [cd_f (by simpa using c2), if_pos (by simpa using c2)]
        · rw [cd_t (by simpa using c2), if_neg (by simpa using c2)]
      · rw [cd_f c3, if_neg c3]
        by_cases c2 : A 13 j = gI D 9 n
        · rw [cd_t c2, if_pos (by simpa using c2)]
        · rw [cd_f c2, if_neg (by simpa using c2)]
theorem points_4 (d : DRel S D LA NL oA oL oN) (hO : WOK D W) (hW : WC D oL W R) : ∀ (i k m : Nat), k + i = 26 → i < m → fn_X6_pointsBy_4 m (pts D W (A 13) k) (nI k) (mc S A R sc) = some (dPts D W (A 13), mc S A R sc) := by
  intro i
  induction i with
  | zero =>
    intro k m e hm
    obtain ⟨m, rfl⟩ : ∃ k, m = k + 1 := ⟨m - 1, by omega⟩
    have e : k = 26 := by omega
    subst e
    conv => lhs; unfold fn_X6_pointsBy_4
    exact cd_t (by decide)
  | succ i ih =>
    intro k m e hm
    obtain ⟨m, rfl⟩ : ∃ k, m = k + 1 := ⟨m - 1, by omega⟩
    rw [← ih (k + 1) m (by omega) (by omega)]
    conv => lhs; unfold fn_X6_pointsBy_4
    conv => rhs; unfold pts
    have f1 : ¬ (26 : Int32) ≤ nI k := by rw [n_lit, n_le (by omega) (by omega)]; omega
    have f4 : nI k + 1 = nI (k + 1) := by rw [n_lit, n_add]
    have hl := lineOf_C (A := A) (sc := sc) d hW (by decide : 0 < 6) (by omega : k < 26)
    rw [show 26 * 0 + k = k by omega] at hl
    unfold fn_X6_pointsBy_40
    rw [cd_f f1, show (0 : Int32) = nI 0 from rfl, hl, bn2_s]
    simp only [f4, bn_s]
    cases hw : W k with
    | none => rfl
    | some n =>
      obtain ⟨l1, l2, l3, l4⟩ := L_num d (hO _ _ hw)
      simp only [Option.map_some, cs_some, bn_s, mc_K, l2, gd_T, holds_C (A := A) (R := R) (sc := sc) d (hO _ _ hw), bn2_s, mc_hi (show 15 ≤ oL n by omega), l3 (by omega)]
      cases hol D (A 13) n
      · exact cd_t rfl
      · exact cd_f (by decide)
theorem points_C (d : DRel S D LA NL oA oL oN) (hO : WOK D W) (hW : WC D oL W R) : fn_X6_pointsBy (mc S A R sc) = some (dPts D W (A 13), mc S A R sc) := points_4 d hO hW 26 0 hFuel rfl (by decide)
theorem grade_7 (d : DRel S D LA NL oA oL oN) (hO : WOK D W) (hW : WC D oL W R) {P : Int32} : ∀ (i k m : Nat), k + i = 26 → i < m → fn_X6_gradeBy_7 m P (oI (grd D W P k)) (bfr D W (grd D W P k)) (nI k) (mc S A R sc) = some (oI (grd D W P 26), mc S A R sc) := by
  intro i
  induction i with
  | zero =>
    intro k m e hm
    obtain ⟨m, rfl⟩ : ∃ k, m = k + 1 := ⟨m - 1, by omega⟩
    have e : k = 26 := by omega
    subst e
    conv => lhs; unfold fn_X6_gradeBy_7
    exact cd_t (by decide)
  | succ i ih =>
    intro k m e hm
    obtain ⟨m, rfl⟩ : ∃ k, m = k + 1 := ⟨m - 1, by omega⟩
    rw [← ih (k + 1) m (by omega) (by omega)]
    have f1 : ¬ (26 : Int32) ≤ nI k := by rw [n_lit, n_le (by omega) (by omega)]; omega
    have f4 : nI k + 1 = nI (k + 1) := by rw [n_lit, n_add]
    have hl := lineOf_C (A := A) (sc := sc) d hW (by decide : 1 < 6) (by omega : k < 26)
    have hg : grd D W P (k + 1) = match W (26 + k) with
      | none => grd D W P k
      | some n => if gI D 10 n ≤ P ∧ bfr D W (grd D W P k) < gI D 10 n then some k else grd D W P k := rfl
    rw [hg]
    conv => lhs; unfold fn_X6_gradeBy_7
    unfold fn_X6_gradeBy_55
    rw [cd_f f1, show (1 : Int32) = nI 1 from rfl, hl, bn2_s, show 26 * 1 + k = 26 + k by omega, show nI k + nI 1 = nI (k + 1) from f4]
    simp only [bn_s]
    cases hw : W (26 + k) with
    | none => rfl
    | some n =>
      obtain ⟨l1, l2, l3, l4⟩ := L_num d (hO _ _ hw)
      simp only [Option.map_some, cs_some, bn_s, mc_K, l2, gd_T, mc_hi (show 15 ≤ oL n by omega), l3 (by omega)]
      by_cases c1 : P < gI D 10 n
      · rw [cd_t c1, if_neg (fun z => absurd z.1 (by simpa using c1))]
      · have c1' : gI D 10 n ≤ P := by simpa using c1
        rw [cd_f c1]
        by_cases c2 : gI D 10 n ≤ bfr D W (grd D W P k)
        · rw [cd_t c2, if_neg (fun z => absurd z.2 (by simpa using c2))]
        · rw [cd_f c2, if_pos ⟨c1', by simpa using c2⟩]
          unfold bfr
          simp only [hw]
          rfl
theorem grade_C (d : DRel S D LA NL oA oL oN) (hO : WOK D W) (hW : WC D oL W R) {P : Int32} : fn_X6_gradeBy P (mc S A R sc) = some (oI (grd D W P 26), mc S A R sc) := grade_7 d hO hW 26 0 hFuel rfl (by decide)
theorem amount_8 (d : DRel S D LA NL oA oL oN) (hO : WOK D W) (hW : WC D oL W R) {b : Int32} : ∀ (i k m : Nat), k + i = 26 → i < m → fn_X6_amountBy_8 m b (amt D W (A 13) b k) (nI k) (mc S A R sc) = some (amt D W (A 13) b 26, mc S A R sc) := by
  intro i
  induction i with
  | zero =>
    intro k m e hm
    obtain ⟨m, rfl⟩ : ∃ k, m = k + 1 := ⟨m - 1, by omega⟩
    have e : k = 26 := by omega
    subst e
    conv => lhs; unfold fn_X6_amountBy_8
    exact cd_t (by decide)
  | succ i ih =>
    intro k m e hm
    obtain ⟨m, rfl⟩ : ∃ k, m = k + 1 := ⟨m - 1, by omega⟩
    rw [← ih (k + 1) m (by omega) (by omega)]
    have f1 : ¬ (26 : Int32) ≤ nI k := by rw [n_lit, n_le (by omega) (by omega)]; omega
    have f4 : nI k + 1 = nI (k + 1) := by rw [n_lit, n_add]
    have hl := lineOf_C (A := A) (sc := sc) d hW (by decide : 5 < 6) (by omega : k < 26)
    have hg : amt D W (A 13) b (k + 1) = match W (130 + k) with
      | none => amt D W (A 13) b k
      | some n => if hol D (A 13) n then amt D W (A 13) b k + gI D 10 n * (if gI D 11 n = 0 then 100 else b) else amt D W (A 13) b k := rfl
    rw [hg]
    conv => lhs; unfold fn_X6_amountBy_8
    unfold fn_X6_amountBy_61 fn_X6_amountBy_58
    rw [cd_f f1, show (5 : Int32) = nI 5 from rfl, hl, bn2_s, show 26 * 5 + k = 130 + k by omega]
    simp only [bn_s, f4, fn_X6_amountBy_61]
    cases hw : W (130 + k) with
    | none => rfl
    | some n =>
      obtain ⟨l1, l2, l3, l4⟩ := L_num d (hO _ _ hw)
      simp only [Option.map_some, cs_some, bn_s, mc_K, l2, gd_T, holds_C (A := A) (R := R) (sc := sc) d (hO _ _ hw), bn2_s, mc_hi (show 15 ≤ oL n by omega), l3 (by omega), l4]
      cases hol D (A 13) n
      · exact cd_t rfl
      · rw [cd_f (by decide)]
        by_cases c : gI D 11 n = 0
        · rw [cd_t c, if_pos rfl, if_pos c]
        · rw [cd_f c, if_pos rfl, if_neg c]
theorem amount_C (d : DRel S D LA NL oA oL oN) (hO : WOK D W) (hW : WC D oL W R) {b : Int32} : fn_X6_amountBy b (mc S A R sc) = some (amt D W (A 13) b 26, mc S A R sc) := by
  unfold fn_X6_amountBy
  rw [bn_s]
  exact amount_8 d hO hW 26 0 hFuel rfl (by decide)
/-- the scale's object -/
theorem sc_L (d : DRel S D LA NL oA oL oN) (hO : WOK D W) {V : Nat → Int32} {n : Nat} (h : dSc D W V = some n) : 65 ≤ oL n ∧ gK S (oL n) = 3 ∧ gI S (oL n) 3 = gI D 13 n ∧ ∃ e, gR S (oL n) 2 = some e ∧ 65 ≤ e ∧ gK S e = 21 ∧ gN S e = 8 ∧ ∀ j, j < Int32.toNatClampNeg (gI D 13 n) → gI S e j = gI D 12 (8 * n + j) := by
  obtain ⟨g, lg, _, _, G⟩ := dSc_GL hO h
  obtain ⟨r1, r2, r3, r4, r5, r6, r7, r8⟩ := d.2.2.2.2.2.2.2.2.1 n G.1
  have h := r8 G.2.2.2.1
  rw [G.2.2.1] at h
  have h2 := h.2.2 (by omega)
  exact ⟨r1, r2, h2.1, h2.2⟩
def AP (D : HS) (oL : Nat → Nat) (W : Nat → Option Nat) (V : Nat → Int32) (s : Nat) (A : AA) (sc : Option Nat) : Prop := A 12 1 = dNo D W 78 360 ∧ A 12 2 = dPts D W V ∧ A 12 3 = oI (dGr D W V) ∧ A 12 4 = dSt D W V s ∧ A 12 5 = dBa D W V s ∧ A 12 6 = dAm D W V s ∧ sc = (dSc D W V).map oL
theorem stepAfter_C (d : DRel S D LA NL oA oL oN) (hO : WOK D W) {V : Nat → Int32} {s : Nat} (h1 : A 12 1 = dNo D W 78 360) (h2 : sc = (dSc D W V).map oL) : fn_X1_stepAfter (nI s) (mc S A R sc) = some (dSt D W V s, mc S A R sc) := by
  unfold fn_X1_stepAfter fn_X1_stepAfter_14 dSt
  rw [mc_sc, h2, mc_a12, h1]
  cases hs : dSc D W V with
  | none => rfl
  | some n =>
    obtain ⟨l1, l2, l3, _⟩ := sc_L d hO hs
    obtain ⟨m, m1, m2, em⟩ := dNo_b hO
    rw [em, Option.map_some, cs_some, cd_t (by rw [n_lit, n_lt (by omega) (by omega)]; omega), gd_t (by rw [n_lit, n_eq (by omega) (by omega)]; omega), bn_s, mc_K, gd_t l2, mc_hi (by omega), l3]
    rfl
theorem moveStep_C (d : DRel S D LA NL oA oL oN) (hO : WOK D W) (hW : WC D oL W R) {V : Nat → Int32} {s : Nat} (ls : s < 2147483648) (hV : A 13 = V) (h2 : sc = (dSc D W V).map oL) : fn_X1_moveStep (dSt D W V s) (mc S A R sc) = some (mc S (up2 (up2 (up2 A 12 4 (dSt D W V s)) 12 5 (dBa D W V s)) 12 6 (dAm D W V s)) R sc) := by
  have hend : ∀ A', A' 13 = V → fn_X1_moveStep_25 (dBa D W V s) (mc S A' R sc) = some (mc S (up2 (up2 A' 12 5 (dBa D W V s)) 12 6 (dAm D W V s)) R sc) := by
    intro A' hA'
    unfold fn_X1_moveStep_25
    rw [bn_s, mc_s12, mc_a12, up2_eq, amount_C d hO hW, bn2_s, bn_s, mc_s12, up2_ne (show 13 ≠ 12 by decide), hA']
    rfl
  unfold fn_X1_moveStep
  rw [bn_s, mc_s12, mc_sc, h2]
  cases hs : dSc D W V with
  | none =>
    have hb : dBa D W V s = 0 := by unfold dBa; rw [hs]; rfl
    rw [Option.map_none, cs_none]
    have := hend (up2 A 12 4 (dSt D W V s)) (by rw [up2_ne (by decide)]; exact hV)
    rw [h2, hs, hb] at this
    rw [hb]
    exact this
  | some n =>
    obtain ⟨l1, l2, l3, e, e1, e2, e3, e4, e5⟩ := sc_L d hO hs
    obtain ⟨m, x, m1, m2, em, x1, x2, ex, es⟩ := dSt_b hO ls hs
    have hb : dBa D W V s = gI D 12 (8 * n + min (s / m) (x - 1)) := by
      unfold dBa; rw [hs]
      show gI D 12 (8 * n + Int32.toNatClampNeg (dSt D W V s)) = _
      rw [es, n_cl (by omega)]
    have hn : fn_X2_scaleNumber (oL n) (dSt D W V s) (mc S (up2 A 12 4 (dSt D W V s)) R (some (oL n))) = some (dBa D W V s, mc S (up2 A 12 4 (dSt D W V s)) R (some (oL n))) := by
      unfold fn_X2_scaleNumber fn_X2_scaleNumber_31
      rw [mc_K, mc_N, mc_hi (by omega), l3, ex, mc_r (by omega) (by omega), e1, hb]
      simp only [bn_s, e3, e4, l2, gd_T]
      rw [es, cd_f (n_ge0 (by omega)), cd_f (by rw [n_le (by omega) (by omega)]; omega), cd_f (by rw [n_le (by omega) (by omega)]; omega), gd_t ((n_in (by omega)).mpr (by omega)), n_cl (by omega), mc_hi (by omega), e5 _ (by rw [ex, n_cl (by omega)]; omega)]
    have := hend (up2 A 12 4 (dSt D W V s)) (by rw [up2_ne (by decide)]; exact hV)
    rw [h2, hs, Option.map_some] at this
    rw [Option.map_some, cs_some, bn_s, mc_K, gd_t l2, hn, bn2_s]
    exact this
theorem renew_C (d : DRel S D LA NL oA oL oN) (hO : WOK D W) (hW : WC D oL W R) {s : Nat} (ls : s < 2147483648) : ∃ A', fn_X1_renew (nI s) (mc S A R sc) = some (mc S A' R ((dSc D W (A 13)).map oL)) ∧ AP D oL W (A 13) s A' ((dSc D W (A 13)).map oL) ∧ ∀ c, c ≠ 12 → A' c = A c := by
  have hmv := moveStep_C (S := S) (R := R) (W := W) (A := up2 (up2 (up2 A 12 2 (dPts D W (A 13))) 12 3 (oI (dGr D W (A 13)))) 12 1 (dNo D W 78 360)) (sc := (dSc D W (A 13)).map oL) (V := A 13) d hO hW ls (by rw [up2_ne (by decide), up2_ne (by decide), up2_ne (by decide)]) rfl
  refine ⟨up2 (up2 (up2 (up2 (up2 (up2 A 12 2 (dPts D W (A 13))) 12 3 (oI (dGr D W (A 13)))) 12 1 (dNo D W 78 360)) 12 4 (dSt D W (A 13) s)) 12 5 (dBa D W (A 13) s)) 12 6 (dAm D W (A 13) s), ?_, ⟨?_, ?_, ?_, ?_, ?_, ?_, rfl⟩, fun c hc => ?_⟩
  · unfold fn_X1_renew
    rw [points_C d hO hW, bn2_s, bn_s, mc_s12, mc_a12, up2_eq, grade_C d hO hW, bn2_s, bn_s, mc_s12, mc_a12, up2_eq]
    have hl : fn_X6_lineOf 2 (oI (grd D W (dPts D W (A 13)) 26)) (mc S (up2 (up2 A 12 2 (dPts D W (A 13))) 12 3 (oI (grd D W (dPts D W (A 13)) 26))) R sc) = some ((dSc D W (A 13)).map oL, mc S (up2 (up2 A 12 2 (dPts D W (A 13))) 12 3 (oI (grd D W (dPts D W (A 13)) 26))) R sc) := by
      unfold dSc dGr
      cases hg : grd D W (dPts D W (A 13)) 26 with
      | none => exact lineOf_n
      | some g => exact lineOf_C d hW (by decide : 2 < 6) (grd_b 26 g hg).1
    rw [hl, bn2_s, bn_s, mc_ss, show (3 : Int32) = nI 3 from rfl, numberOf_C d hO hW (by decide) (by decide), bn2_s, bn_s, mc_s12, show 26 * 3 = 78 from rfl, stepAfter_C (V := A 13) d hO up2_eq rfl, bn2_s]
    show bn (fn_X1_moveStep (dSt D W (A 13) s) (mc S (up2 (up2 (up2 A 12 2 (dPts D W (A 13))) 12 3 (oI (dGr D W (A 13)))) 12 1 (dNo D W 78 360)) R ((dSc D W (A 13)).map oL))) _ = _
    rw [hmv, bn_s]
  · rw [up2_nk (by decide), up2_nk (by decide), up2_nk (by decide), up2_eq]
  · rw [up2_nk (by decide), up2_nk (by decide), up2_nk (by decide), up2_nk (by decide), up2_nk (by decide), up2_eq]
  · rw [up2_nk (by decide), up2_nk (by decide), up2_nk (by decide), up2_nk (by decide), up2_eq]
  · rw [up2_nk (by decide), up2_nk (by decide), up2_eq]
  · rw [up2_nk (by decide), up2_eq]
  · rw [up2_eq]
  · rw [up2_ne hc, up2_ne hc, up2_ne hc, up2_ne hc, up2_ne hc, up2_ne hc]
theorem follow_C (d : DRel S D LA NL oA oL oN) (hO : WOK D W) (hW : WC D oL W R) {s s0 : Nat} (ls : s < 2147483648) (h : AP D oL W (A 13) s0 A sc) : ∃ A', fn_X1_follow (nI s) (mc S A R sc) = some (mc S A' R sc) ∧ AP D oL W (A 13) s A' sc ∧ ∀ c, c ≠ 12 → A' c = A c := by
  obtain ⟨h1, h2, h3, h4, h5, h6, h7⟩ := h
  unfold fn_X1_follow fn_X1_follow_24
  rw [stepAfter_C d hO h1 h7, bn2_s, mc_a12, h4]
  by_cases c : dSt D W (A 13) s = dSt D W (A 13) s0
  · refine ⟨A, cd_t c, ⟨h1, h2, h3, h4.trans c.symm, ?_, ?_, h7⟩, fun c _ => rfl⟩
    · rw [h5]; unfold dBa; rw [c]
    · rw [h6]; unfold dAm dBa; rw [c]
  · refine ⟨up2 (up2 (up2 A 12 4 (dSt D W (A 13) s)) 12 5 (dBa D W (A 13) s)) 12 6 (dAm D W (A 13) s), ?_, ⟨?_, ?_, ?_, ?_, ?_, up2_eq, h7⟩, fun c hc => ?_⟩
    · rw [cd_f c, moveStep_C d hO hW ls rfl h7, bn_s]
    · rw [up2_nk (by decide), up2_nk (by decide), up2_nk (by decide)]; exact h1
    · rw [up2_nk (by decide), up2_nk (by decide), up2_nk (by decide)]; exact h2
    · rw [up2_nk (by decide), up2_nk (by decide), up2_nk (by decide)]; exact h3
    · rw [up2_nk (by decide), up2_nk (by decide), up2_eq]
    · rw [up2_nk (by decide), up2_eq]
    · rw [up2_ne hc, up2_ne hc, up2_ne hc]
theorem dSt_at {D : HS} {W : Nat → Option Nat} {V : Nat → Int32} (hO : WOK D W) {n m x : Nat} (hs : dSc D W V = some n) (em : dNo D W 78 360 = nI m) (lm : m < 10000) (ex : gI D 13 n = nI x) (lx : x ≤ 8) {s : Nat} (ls : s < 2147483648) : dSt D W V s = nI (min (s / m) (x - 1)) := by
  obtain ⟨m', x', _, l1, em', _, l2, ex', es'⟩ := dSt_b (s := s) hO ls hs
  have e1 : m' = m := (n_eq (Nat.lt_trans l1 (by decide)) (Nat.lt_trans lm (by decide))).mp (em'.symm.trans em)
  have e2 : x' = x := (n_eq (by omega) (by omega)).mp (ex'.symm.trans ex)
  rw [es', e1, e2]
theorem div_stay {s m i : Nat} (h : i < m - s % m) (h1 : 1 ≤ m) : (s + i) / m = s / m := by
  have e1 := Nat.div_add_mod s m
  have hmod : s % m < m := Nat.mod_lt _ (by omega)
  rw [show s + i = (s % m + i) + m * (s / m) by omega, Nat.add_mul_div_left _ _ (by omega), Nat.div_eq_of_lt (by omega)]
  omega
theorem nextStep_C (d : DRel S D LA NL oA oL oN) (hO : WOK D W) {V : Nat → Int32} {s : Nat} (ls : s < 2000) (h : AP D oL W V s A sc) : ∃ t, fn_X1_daysToNextStep (nI s) (mc S A R sc) = some (nI t, mc S A R sc) ∧ 1 ≤ t ∧ t ≤ 10000 ∧ ∀ i, i < t → dSt D W V (s + i) = dSt D W V s ∨ 1200 ≤ i := by
  obtain ⟨h1, h2, h3, h4, h5, h6, h7⟩ := h
  unfold fn_X1_daysToNextStep fn_X1_daysToNextStep_34 fn_X1_daysToNextStep_35 fn_X1_daysToNextStep_57
  rw [mc_sc, h7, mc_a12, mc_a12, h1, h4]
  cases hs : dSc D W V with
  | none =>
    refine ⟨1200, ?_, by decide, by decide, fun i _ => Or.inl ?_⟩
    · rw [Option.map_none, cs_none, cd_t rfl, n_lit]
    · simp only [dSt, hs, Option.elim_none]
  | some n =>
    obtain ⟨l1, l2, l3, _⟩ := sc_L d hO hs
    obtain ⟨m, x, m1, m2, em, x1, x2, ex, es⟩ := dSt_b hO (Nat.lt_trans ls (by decide) : s < 2147483648) hs
    have hst : ∀ i, i < 1200 → dSt D W V (s + i) = nI (min ((s + i) / m) (x - 1)) := fun i hi => dSt_at hO hs em m2 ex x2 (by omega)
    have g1 : ¬ nI m ≤ 0 := by rw [n_lit, n_le (by omega) (by omega)]; omega
    have g2 : ¬ nI m = 0 := by rw [n_lit, n_eq (by omega) (by omega)]; omega
    have g3 : nI x - 1 = nI (x - 1) := by rw [n_lit, n_sub (by omega)]
    rw [Option.map_some, cs_some, em, cd_f g1, bn_s, mc_K, gd_t l2, mc_hi (by omega), l3, ex, g3, es, gd_t g2]
    by_cases c : x - 1 ≤ min (s / m) (x - 1)
    · have g4 : nI (x - 1) ≤ nI (min (s / m) (x - 1)) := by rw [n_le (by omega) (by omega)]; exact c
      refine ⟨1200, ?_, by decide, by decide, fun i hi => Or.inl ?_⟩
      · rw [cd_t g4, cd_t rfl, n_lit]
      · rw [hst i hi]
        have : s / m ≤ (s + i) / m := Nat.div_le_div_right (by omega)
        congr 1
        omega
    · have g4 : ¬ nI (x - 1) ≤ nI (min (s / m) (x - 1)) := by rw [n_le (by omega) (by omega)]; exact c
      have hmod : s % m < m := Nat.mod_lt _ (by omega)
      refine ⟨m - s % m, ?_, by omega, by omega, fun i hi => ?_⟩
      · rw [cd_f g4, cd_f (by decide), n_mod (by omega) (by omega), n_sub (by omega)]
      · rcases Nat.lt_or_ge i 1200 with l | l
        · refine Or.inl ?_
          rw [hst i l, div_stay hi m1]
        · exact Or.inr l
end CAPP
