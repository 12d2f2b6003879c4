/-! the reference's appraisal of a post -/
def oI (o : Option Nat) : Int32 := o.elim (-1) nI
theorem oI_n : oI none = -1 := rfl
theorem oI_s {n : Nat} : oI (some n) = nI n := rfl
def WA (W : Nat → Option Nat) (A : AA) : Prop := ∀ k, k < 156 → A 20 k = oI (W k)
section MSIDE
variable {D : HS} {W : Nat → Option Nat} {V : Nat → Int32} {A : AA} {J : Nat → Int64}
theorem mk_a20 {j : Nat} : gI (mk D A J) 20 j = A 20 j := rfl
theorem mk_a21 {j : Nat} : gI (mk D A J) 21 j = A 21 j := rfl
theorem mk_a23 {j : Nat} : gI (mk D A J) 23 j = A 23 j := rfl
theorem mk_a24 {j : Nat} : gI (mk D A J) 24 j = A 24 j := rfl
theorem mk_a25 {j : Nat} : gI (mk D A J) 25 j = A 25 j := rfl
theorem mk_a26 {j : Nat} : gI (mk D A J) 26 j = A 26 j := rfl
theorem mk_a27 {j : Nat} : gI (mk D A J) 27 j = A 27 j := rfl
theorem mk_a28 {j : Nat} : gI (mk D A J) 28 j = A 28 j := rfl
theorem mk_a29 {j : Nat} : gI (mk D A J) 29 j = A 29 j := rfl
theorem mk_a30 {j : Nat} : gI (mk D A J) 30 j = A 30 j := rfl
theorem mk_a31 {j : Nat} : gI (mk D A J) 31 j = A 31 j := rfl
theorem mk_a32 {j : Nat} : gI (mk D A J) 32 j = A 32 j := rfl
theorem mk_a33 {j : Nat} : gI (mk D A J) 33 j = A 33 j := rfl
theorem mk_g0 {j : Nat} : gI (mk D A J) 0 j = gI D 0 j := rfl
theorem mk_g3 {j : Nat} : gI (mk D A J) 3 j = gI D 3 j := rfl
theorem mk_g6 {j : Nat} : gI (mk D A J) 6 j = gI D 6 j := rfl
theorem mk_g7 {j : Nat} : gI (mk D A J) 7 j = gI D 7 j := rfl
theorem mk_g8 {j : Nat} : gI (mk D A J) 8 j = gI D 8 j := rfl
theorem mk_g9 {j : Nat} : gI (mk D A J) 9 j = gI D 9 j := rfl
theorem mk_g10 {j : Nat} : gI (mk D A J) 10 j = gI D 10 j := rfl
theorem mk_g11 {j : Nat} : gI (mk D A J) 11 j = gI D 11 j := rfl
theorem mk_g12 {j : Nat} : gI (mk D A J) 12 j = gI D 12 j := rfl
theorem mk_g13 {j : Nat} : gI (mk D A J) 13 j = gI D 13 j := rfl
theorem mk_g14 {j : Nat} : gI (mk D A J) 14 j = gI D 14 j := rfl
theorem mk_g15 {j : Nat} : gI (mk D A J) 15 j = gI D 15 j := rfl
theorem mk_g16 {j : Nat} : gI (mk D A J) 16 j = gI D 16 j := rfl
theorem mk_g17 {j : Nat} : gI (mk D A J) 17 j = gI D 17 j := rfl
theorem mk_g18 {j : Nat} : gI (mk D A J) 18 j = gI D 18 j := rfl
theorem mk_g19 {j : Nat} : gI (mk D A J) 19 j = gI D 19 j := rfl
theorem mk_s23 {k : Nat} {v : Int32} : sI (mk D A J) 23 k v = mk D (up2 A 23 k v) J := mk_s (by decide) (by decide)
theorem mk_s24 {k : Nat} {v : Int32} : sI (mk D A J) 24 k v = mk D (up2 A 24 k v) J := mk_s (by decide) (by decide)
theorem mk_s25 {k : Nat} {v : Int32} : sI (mk D A J) 25 k v = mk D (up2 A 25 k v) J := mk_s (by decide) (by decide)
theorem mk_s26 {k : Nat} {v : Int32} : sI (mk D A J) 26 k v = mk D (up2 A 26 k v) J := mk_s (by decide) (by decide)
theorem mk_s27 {k : Nat} {v : Int32} : sI (mk D A J) 27 k v = mk D (up2 A 27 k v) J := mk_s (by decide) (by decide)
theorem mk_s28 {k : Nat} {v : Int32} : sI (mk D A J) 28 k v = mk D (up2 A 28 k v) J := mk_s (by decide) (by decide)
theorem mk_s29 {k : Nat} {v : Int32} : sI (mk D A J) 29 k v = mk D (up2 A 29 k v) J := mk_s (by decide) (by decide)
theorem mk_s30 {k : Nat} {v : Int32} : sI (mk D A J) 30 k v = mk D (up2 A 30 k v) J := mk_s (by decide) (by decide)
theorem mk_s31 {k : Nat} {v : Int32} : sI (mk D A J) 31 k v = mk D (up2 A 31 k v) J := mk_s (by decide) (by decide)
theorem mk_s32 {k : Nat} {v : Int32} : sI (mk D A J) 32 k v = mk D (up2 A 32 k v) J := mk_s (by decide) (by decide)
theorem mk_s33 {k : Nat} {v : Int32} : sI (mk D A J) 33 k v = mk D (up2 A 33 k v) J := mk_s (by decide) (by decide)
theorem numberOf_M (hW : WOK D W) (hA : WA W A) {i : Nat} (hi : i < 6) (z : Int32) : fn_X9_numberOf (nI i) z (mk D A J) = some (dNo D W (26 * i) z, mk D A J) := by
  have t : 26 * nI i = nI (26 * i) := by rw [n_lit, n_mul]
  unfold fn_X9_numberOf fn_X9_numberOf_25 dNo
  rw [t, gd_t ((n_in (by omega)).mpr (by omega)), n_cl (by omega), bn_s, mk_a20, hA _ (by omega)]
  cases hw : W (26 * i) with
  | none => exact cd_t rfl
  | some n =>
    have hn := (hW _ _ hw).2.1
    rw [oI_s, cd_f (n_neg1 (by omega)), gd_t ((n_in (by omega)).mpr (by omega)), n_cl (by omega)]
    rfl
theorem holds_M {p n k : Nat} (hp : p < 8) (hn : GL D k n) (hV : ∀ j, j < 6 → V j = A 23 (9 * p + j)) : fn_X9_holds (nI p) (nI n) (mk D A J) = some (if hol D V n then 1 else 0, mk D A J) := by
  have f1 : vp_in (nI n) 481 := (n_in (by have := hn.2.1; omega)).mpr (by have := hn.2.1; omega)
  have f2 : (nI n).toNatClampNeg = n := n_cl (by have := hn.2.1; omega)
  unfold fn_X9_holds fn_X9_holds_102 hol
  simp only [f1, f2, gd_T, mk_g7, mk_g8, mk_g9, bn_s, or_true, true_or, mk_a23]
  by_cases c : gI D 7 n = -1
  · rw [cd_t c, if_pos c]; rfl
  · obtain ⟨j, lj, ej⟩ := n_ex (hn.2.2.2.2.2.2.2.2.2.resolve_left c)
    have t : 9 * nI p + nI j = nI (9 * p + j) := by rw [n_lit, n_mul, n_add]
    rw [cd_f c, if_neg c, ej, t, gd_t ((n_in (by omega)).mpr (by omega)), n_cl (by omega), n_cl (by omega), ← hV j lj]
    by_cases c1 : gI D 8 n = 60
    · rw [cd_t c1, if_pos c1]
      by_cases c2 : V j < gI D 9 n
      · rw [cd_f (by simpa using c2), if_pos (by simpa using c2)]
      · rw [cd_t (by simpa using c2), if_neg (by simpa using c2)]
    · rw [cd_f c1, if_neg c1]
      by_cases c3 : gI D 8 n = 62
      · rw [cd_t c3, if_pos c3]
        by_cases c2 : gI D 9 n < V j
        · rw [cd_f (by simpa using c2), if_pos (by simpa using c2)]
        · rw [cd_t (by simpa using c2), if_neg (by simpa using c2)]
      · rw [cd_f c3, if_neg c3]
        by_cases c2 : V j = gI D 9 n
        · rw [cd_t c2, if_pos (by simpa using c2)]
        · rw [cd_f c2, if_neg (by simpa using c2)]
theorem stands_16 (hW : WOK D W) (hA : WA W A) {p : Nat} (hp : p < 8) (hV : ∀ j, j < 6 → V j = A 23 (9 * p + j)) : ∀ (i k m : Nat), k + i = 26 → i < m → fn_X9_stands_16 m (nI p) (nI k) (mk D (up2 A 26 p (pts D W V k)) J) = fn_X9_stands_66 hFuel (nI p) 0 (mk D (up2 A 26 p (dPts D W V)) J) := by
  intro i
  induction i with
  | zero =>
    intro k m e hm
    obtain ⟨m, rfl⟩ : ∃ k, m = k + 1 := ⟨m - 1, by omega⟩
    have e : k = 26 := by omega
    subst e
    conv => lhs; unfold fn_X9_stands_16
    exact cd_t (by decide)
  | succ i ih =>
    intro k m e hm
    obtain ⟨m, rfl⟩ : ∃ k, m = k + 1 := ⟨m - 1, by omega⟩
    rw [← ih (k + 1) m (by omega) (by omega)]
    conv => lhs; unfold fn_X9_stands_16
    conv => rhs; unfold pts
    have f1 : ¬ (26 : Int32) ≤ nI k := by rw [n_lit, n_le (by omega) (by omega)]; omega
    have f2 : vp_in (nI k) 156 := (n_in (by omega)).mpr (by omega)
    have f3 : (nI k).toNatClampNeg = k := n_cl (by omega)
    have f4 : nI k + 1 = nI (k + 1) := by rw [n_lit, n_add]
    have f5 : vp_in (nI p) 8 := (n_in (by omega)).mpr hp
    have f6 : (nI p).toNatClampNeg = p := n_cl (by omega)
    unfold fn_X9_stands_58
    simp only [f1, f2, f3, f4, f5, f6, cd_F, gd_T, bn_s, mk_a20, up2_ne (show 20 ≠ 26 by decide), hA k (by omega)]
    cases hw : W k with
    | none => exact cd_t rfl
    | some n =>
      have hG := hW _ _ hw
      have g1 : vp_in (nI n) 481 := (n_in (by have := hG.2.1; omega)).mpr (by have := hG.2.1; omega)
      have g2 : (nI n).toNatClampNeg = n := n_cl (by have := hG.2.1; omega)
      rw [oI_s, cd_f (n_neg1 (by have := hG.2.1; omega)), holds_M (V := V) hp hG (fun j hj => by rw [up2_ne (by decide)]; exact hV j hj), bn2_s]
      simp only [g1, g2, gd_T, mk_a26, mk_g10, mk_s26, up2_eq, up2_up]
      cases hol D V n
      · exact cd_t rfl
      · exact cd_f (by decide)
theorem stands_66 (hW : WOK D W) (hA : WA W A) {p : Nat} (hp : p < 8) : ∀ (i k m : Nat), k + i = 26 → i < m → fn_X9_stands_66 m (nI p) (nI k) (mk D (up2 A 27 p (oI (grd D W (A 26 p) k))) J) = fn_X9_stands_184 (nI p) (oI ((grd D W (A 26 p) 26).elim none (fun g => W (52 + g)))) (mk D (up2 A 27 p (oI (grd D W (A 26 p) 26))) J) := by
  intro i
  induction i with
  | zero =>
    intro k m e hm
    obtain ⟨m, rfl⟩ : ∃ k, m = k + 1 := ⟨m - 1, by omega⟩
    have e : k = 26 := by omega
    subst e
    have f5 : vp_in (nI p) 8 := (n_in (by omega)).mpr hp
    have f6 : (nI p).toNatClampNeg = p := n_cl (by omega)
    conv => lhs; unfold fn_X9_stands_66
    rw [cd_t (by decide)]
    simp only [f5, f6, gd_T, mk_a27, mk_a20, up2_eq, up2_ne (show 20 ≠ 27 by decide)]
    cases hg : grd D W (A 26 p) 26 with
    | none => exact cd_t rfl
    | some g =>
      have lg := (grd_b 26 g hg).1
      have t : 52 + nI g = nI (52 + g) := by rw [n_lit, n_add]
      rw [oI_s, cd_f (n_neg1 (by omega)), t, gd_t ((n_in (by omega)).mpr (by omega)), n_cl (by omega), hA _ (by omega)]
      rfl
  | succ i ih =>
    intro k m e hm
    obtain ⟨m, rfl⟩ : ∃ k, m = k + 1 := ⟨m - 1, by omega⟩
    rw [← ih (k + 1) m (by omega) (by omega)]
    conv => lhs; unfold fn_X9_stands_66
    conv => rhs; unfold grd
    have f1 : ¬ (26 : Int32) ≤ nI k := by rw [n_lit, n_le (by omega) (by omega)]; omega
    have t : 26 + nI k = nI (26 + k) := by rw [n_lit, n_add]
    have f2 : vp_in (nI (26 + k)) 156 := (n_in (by omega)).mpr (by omega)
    have f3 : (nI (26 + k)).toNatClampNeg = 26 + k := n_cl (by omega)
    have f4 : nI k + 1 = nI (k + 1) := by rw [n_lit, n_add]
    have f5 : vp_in (nI p) 8 := (n_in (by omega)).mpr hp
    have f6 : (nI p).toNatClampNeg = p := n_cl (by omega)
    unfold fn_X9_stands_150 fn_X9_stands_143
    simp only [f1, f2, f3, f4, f5, f6, t, cd_F, gd_T, bn_s, mk_a20, mk_a26, mk_a27, mk_g10, mk_s27, up2_eq, up2_up, up2_ne (show 20 ≠ 27 by decide), up2_ne (show 26 ≠ 27 by decide), hA (26 + k) (by omega)]
    cases hw : W (26 + k) with
    | none => exact cd_t rfl
    | some n =>
      have hG := hW _ _ hw
      have g1 : vp_in (nI n) 481 := (n_in (by have := hG.2.1; omega)).mpr (by have := hG.2.1; omega)
      have g2 : (nI n).toNatClampNeg = n := n_cl (by have := hG.2.1; omega)
      obtain ⟨x, lx, ex⟩ := n_ex (hG.2.2.2.2.1 (by omega))
      have hneg : (-1 : Int32) < gI D 10 n := by rw [ex, t_lt, n_int (by omega)]; have := t_n1; omega
      rw [oI_s, cd_f (n_neg1 (by have := hG.2.1; omega))]
      simp only [g1, g2, gd_T, fn_X9_stands_150, f4, bn_s]
      by_cases c1 : gI D 10 n ≤ A 26 p
      · rw [cd_t c1]
        cases hg : grd D W (A 26 p) k with
        | none =>
          rw [oI_n, cd_t rfl]
          show _ = fn_X9_stands_66 m (nI p) (nI (k + 1)) (mk D (up2 A 27 p (oI (if gI D 10 n ≤ A 26 p ∧ bfr D W none < gI D 10 n then some k else none))) J)
          rw [if_pos ⟨c1, hneg⟩, oI_s]
        | some g =>
          obtain ⟨lg, n', hn'⟩ := grd_b k g hg
          have hG' := hW _ _ hn'
          have t2 : 26 + nI g = nI (26 + g) := by rw [n_lit, n_add]
          have g3 : vp_in (nI n') 481 := (n_in (by have := hG'.2.1; omega)).mpr (by have := hG'.2.1; omega)
          have g4 : (nI n').toNatClampNeg = n' := n_cl (by have := hG'.2.1; omega)
          rw [oI_s, cd_f (n_neg1 (by omega)), t2, gd_t ((n_in (by omega)).mpr (by omega)), n_cl (by omega), hA _ (by omega), hn', oI_s, gd_t g3, g4]
          show _ = fn_X9_stands_66 m (nI p) (nI (k + 1)) (mk D (up2 A 27 p (oI (if gI D 10 n ≤ A 26 p ∧ (W (26 + g)).elim (-1) (gI D 10) < gI D 10 n then some k else some g))) J)
          rw [hn']
          show _ = fn_X9_stands_66 m (nI p) (nI (k + 1)) (mk D (up2 A 27 p (oI (if gI D 10 n ≤ A 26 p ∧ gI D 10 n' < gI D 10 n then some k else some g))) J)
          by_cases c2 : gI D 10 n ≤ gI D 10 n'
          · rw [cd_t c2, if_neg (fun z => absurd z.2 (by simpa using c2)), oI_s]
          · rw [cd_f c2, if_pos ⟨c1, by simpa using c2⟩, oI_s]
      · rw [cd_f c1]
        show _ = fn_X9_stands_66 m (nI p) (nI (k + 1)) (mk D (up2 A 27 p (oI (if gI D 10 n ≤ A 26 p ∧ bfr D W (grd D W (A 26 p) k) < gI D 10 n then some k else grd D W (A 26 p) k))) J)
        rw [if_neg (fun z => c1 z.1)]
theorem stands_279 (hW : WOK D W) (hA : WA W A) {p : Nat} (hp : p < 8) (hV : ∀ j, j < 6 → V j = A 23 (9 * p + j)) : ∀ (i k m : Nat), k + i = 26 → i < m → fn_X9_stands_279 m (nI p) (nI k) (mk D (up2 A 30 p (amt D W V (A 29 p) k)) J) = some (mk D (up2 A 30 p (amt D W V (A 29 p) 26)) J) := by
  intro i
  induction i with
  | zero =>
    intro k m e hm
    obtain ⟨m, rfl⟩ : ∃ k, m = k + 1 := ⟨m - 1, by omega⟩
    have e : k = 26 := by omega
    subst e
    conv => lhs; unfold fn_X9_stands_279
    exact cd_t (by decide)
  | succ i ih =>
    intro k m e hm
    obtain ⟨m, rfl⟩ : ∃ k, m = k + 1 := ⟨m - 1, by omega⟩
    rw [← ih (k + 1) m (by omega) (by omega)]
    conv => lhs; unfold fn_X9_stands_279
    conv => rhs; unfold amt
    have f1 : ¬ (26 : Int32) ≤ nI k := by rw [n_lit, n_le (by omega) (by omega)]; omega
    have t : 130 + nI k = nI (130 + k) := by rw [n_lit, n_add]
    have f2 : vp_in (nI (130 + k)) 156 := (n_in (by omega)).mpr (by omega)
    have f3 : (nI (130 + k)).toNatClampNeg = 130 + k := n_cl (by omega)
    have f4 : nI k + 1 = nI (k + 1) := by rw [n_lit, n_add]
    have f5 : vp_in (nI p) 8 := (n_in (by omega)).mpr hp
    have f6 : (nI p).toNatClampNeg = p := n_cl (by omega)
    unfold fn_X9_stands_351 fn_X9_stands_348
    simp only [f1, f2, f3, f4, f5, f6, t, cd_F, gd_T, bn_s, mk_a20, up2_ne (show 20 ≠ 30 by decide), hA (130 + k) (by omega)]
    cases hw : W (130 + k) with
    | none => exact cd_t rfl
    | some n =>
      have hG := hW _ _ hw
      have g1 : vp_in (nI n) 481 := (n_in (by have := hG.2.1; omega)).mpr (by have := hG.2.1; omega)
      have g2 : (nI n).toNatClampNeg = n := n_cl (by have := hG.2.1; omega)
      rw [oI_s, cd_f (n_neg1 (by have := hG.2.1; omega)), holds_M (V := V) hp hG (fun j hj => by rw [up2_ne (by decide)]; exact hV j hj), bn2_s]
      simp only [g1, g2, gd_T, mk_a29, mk_a30, mk_g10, mk_g11, mk_s30, up2_eq, up2_up, up2_ne (show 29 ≠ 30 by decide), fn_X9_stands_351, f4, bn_s]
      cases hol D V n
      · exact cd_t rfl
      · rw [cd_f (by decide)]
        show _ = fn_X9_stands_279 m (nI p) (nI (k + 1)) (mk D (up2 A 30 p (amt D W V (A 29 p) k + gI D 10 n * (if gI D 11 n = 0 then 100 else A 29 p))) J)
        by_cases c : gI D 11 n = 0
        · rw [cd_t c, if_pos c]
        · rw [cd_f c, if_neg c]
def stA (D : HS) (W : Nat → Option Nat) (V : Nat → Int32) (s p : Nat) (A : AA) : AA := up2 (up2 (up2 (up2 (up2 A 26 p (dPts D W V)) 27 p (oI (dGr D W V))) 28 p (dSt D W V s)) 29 p (dBa D W V s)) 30 p (dAm D W V s)
theorem stands_M (hW : WOK D W) (hA : WA W A) {p who s : Nat} (hp : p < 8) (hV : ∀ j, j < 6 → V j = A 23 (9 * p + j)) (hw : gI D 14 p = nI who) (lw : who < 8) (hs : A 24 who = nI s) (ls : s < 2147483648) : fn_X9_stands (nI p) (mk D A J) = some (mk D (stA D W V s p A) J) := by
  have f5 : vp_in (nI p) 8 := (n_in (by omega)).mpr hp
  have f6 : (nI p).toNatClampNeg = p := n_cl (by omega)
  unfold fn_X9_stands
  simp only [f5, f6, gd_T, bn_s, mk_s26, mk_s27]
  have e1 : up2 (up2 A 26 p 0) 27 p (-1) = up2 (up2 A 27 p (-1)) 26 p (pts D W V 0) := by
    funext b j
    unfold up2 pts
    by_cases h1 : b = 27 ∧ j = p
    · rw [if_pos h1, if_neg (by omega), if_pos h1]
    · rw [if_neg h1, if_neg h1]
  rw [e1]
  have hA1 : WA W (up2 A 27 p (-1)) := fun k hk => by rw [up2_ne (by decide)]; exact hA k hk
  refine (stands_16 (V := V) hW hA1 hp (fun j hj => by rw [up2_ne (by decide)]; exact hV j hj) 26 0 hFuel rfl (by decide)).trans ?_
  have e2 : up2 (up2 A 27 p (-1)) 26 p (dPts D W V) = up2 (up2 A 26 p (dPts D W V)) 27 p (oI (grd D W (up2 A 26 p (dPts D W V) 26 p) 0)) := by
    funext b j
    unfold up2 grd
    by_cases h1 : b = 27 ∧ j = p
    · rw [if_neg (by omega), if_pos h1, if_pos h1]; rfl
    · rw [if_neg h1, if_neg h1]
  rw [e2]
  have hA2 : WA W (up2 A 26 p (dPts D W V)) := fun k hk => by rw [up2_ne (by decide)]; exact hA k hk
  refine (stands_66 hW hA2 hp 26 0 hFuel rfl (by decide)).trans ?_
  rw [up2_eq]
  show fn_X9_stands_184 (nI p) (oI (dSc D W V)) (mk D (up2 (up2 A 26 p (dPts D W V)) 27 p (oI (dGr D W V))) J) = _
  have hend : ∀ y, fn_X9_stands_261 (nI p) (dBa D W V s) (nI p) (mk D (up2 (up2 (up2 A 26 p (dPts D W V)) 27 p (oI (dGr D W V))) 28 p y) J) = some (mk D (up2 (up2 (up2 (up2 (up2 A 26 p (dPts D W V)) 27 p (oI (dGr D W V))) 28 p y) 29 p (dBa D W V s)) 30 p (dAm D W V s)) J) := by
    intro y
    unfold fn_X9_stands_261
    simp only [f5, f6, gd_T, bn_s, mk_s29, mk_s30, mk_a29, up2_eq]
    have hA3 : WA W (up2 (up2 (up2 (up2 A 26 p (dPts D W V)) 27 p (oI (dGr D W V))) 28 p y) 29 p (dBa D W V s)) := fun k hk => by rw [up2_ne (by decide), up2_ne (by decide), up2_ne (by decide), up2_ne (by decide)]; exact hA k hk
    have := stands_279 (V := V) (J := J) hW hA3 hp (fun j hj => by rw [up2_ne (by decide), up2_ne (by decide), up2_ne (by decide), up2_ne (by decide)]; exact hV j hj) 26 0 hFuel rfl (by decide)
    rw [up2_eq] at this
    exact this
  unfold fn_X9_stands_184 fn_X9_stands_230 stA
  simp only [f5, f6, gd_T, bn_s, mk_s28, mk_a28, up2_eq]
  cases hsc : dSc D W V with
  | none =>
    rw [oI_n, cd_t rfl, cd_t rfl]
    have e3 : dSt D W V s = -1 := by unfold dSt; rw [hsc]; rfl
    have e4 : dBa D W V s = 0 := by unfold dBa; rw [hsc]; rfl
    rw [e3]
    have := hend (-1)
    rw [e4] at this
    rw [e4]
    exact this
  | some n =>
    obtain ⟨m, x, m1, m2, em, x1, x2, ex, es⟩ := dSt_b hW ls hsc
    obtain ⟨g, lg, _, _, G⟩ := dSc_GL hW hsc
    have ln := G.2.1
    have t : 8 * nI n = nI (8 * n) := by rw [n_lit, n_mul]
    have h3 : jmin (nI s / dNo D W 78 360) (gI D 13 n - 1) = dSt D W V s := by unfold dSt; rw [hsc]; rfl
    have h4 : gI D 12 (8 * n + Int32.toNatClampNeg (dSt D W V s)) = dBa D W V s := by unfold dBa; rw [hsc]; rfl
    have hA2' : WA W (up2 (up2 A 26 p (dPts D W V)) 27 p (oI (dGr D W V))) := fun k hk => by rw [up2_ne (by decide), up2_ne (by decide)]; exact hA k hk
    rw [oI_s, cd_f (n_neg1 (by omega)), mk_g14, hw, gd_t ((n_in (by omega)).mpr lw), n_cl (by omega), show (3 : Int32) = nI 3 from rfl, numberOf_M hW hA2' (by decide), bn2_s, mk_a24, up2_ne (by decide), up2_ne (by decide), hs, show 26 * 3 = 78 from rfl]
    rw [gd_t (by rw [em, show (0 : Int32) = nI 0 from rfl, n_eq (by omega) (by omega)]; omega), gd_t ((n_in (by omega)).mpr (by omega)), n_cl (by omega), mk_g13, h3, cd_f (n_neg1 (by omega)), t, es, mk_s28, mk_a28, up2_eq, n_add, gd_t ((n_in (by omega)).mpr (by omega)), n_cl (by omega), mk_g12]
    have h5 := hend (dSt D W V s)
    rw [← h4, es, n_cl (by omega)] at h5
    rw [← h4, es, n_cl (by omega)]
    exact h5
theorem gives_M {p : Nat} (hp : p < 8) : fn_X9_gives (nI p) (mk D A J) = some (mk D (up2 (up2 A 33 p (fnx (A 23 (9 * p + 6)) (A 30 p) (A 33 p, A 32 p)).1) 31 p (fnx (A 23 (9 * p + 6)) (A 30 p) (A 33 p, A 32 p)).2.2) J) := by
  have f5 : vp_in (nI p) 8 := (n_in (by omega)).mpr hp
  have f6 : (nI p).toNatClampNeg = p := n_cl (by omega)
  have t : 9 * nI p + 6 = nI (9 * p + 6) := by rw [n_lit, n_mul, n_lit, n_add]
  have f7 : vp_in (nI (9 * p + 6)) 72 := (n_in (by omega)).mpr (by omega)
  have f8 : (nI (9 * p + 6)).toNatClampNeg = 9 * p + 6 := n_cl (by omega)
  unfold fn_X9_gives fn_X9_gives_54 fn_X9_gives_83 fnx
  simp only [f5, f6, f7, f8, t, gd_T, bn_s, mk_a23, mk_a30, mk_a31, mk_a32, mk_a33, mk_s31, mk_s33]
  by_cases c1 : A 23 (9 * p + 6) = 0
  · simp only [c1, cd_T, if_true, up2_id]
  · simp only [c1, cd_F, if_false]
    by_cases c2 : A 33 p = 0
    · simp only [c2, cd_T, ne_eq, not_true_eq_false, false_and, if_false]
      rw [show up2 A 33 p 0 = A by rw [← c2, up2_id]]
    · by_cases c3 : A 30 p < A 32 p
      · simp only [c2, c3, cd_F, cd_T, ne_eq, not_false_eq_true, true_and, if_true, up2_id]
      · simp only [c2, c3, cd_F, cd_T, ne_eq, not_false_eq_true, true_and, if_false, up2_eq, up2_ne (show 30 ≠ 33 by decide)]
end MSIDE
