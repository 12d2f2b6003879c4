/-! days, and what is known -/
theorem gd1 (S : HS) : gd ((1 : Int32) = 0 ∨ (1 : Int32) = 1) (some ((1 : Int32), S)) = some (1, S) := gd_t (Or.inr rfl)
theorem gd0 (S : HS) : gd ((0 : Int32) = 0 ∨ (0 : Int32) = 1) (some ((0 : Int32), S)) = some (0, S) := gd_t (Or.inl rfl)
theorem isDay_C (x : Int32) : (vp_in x 1200 ∧ (∀ S, fn_X8_isDay x S = some (1, S)) ∧ ∀ S, fn_X9_isDay x S = some (1, S)) ∨ ((∀ S, fn_X8_isDay x S = some (0, S)) ∧ ∀ S, fn_X9_isDay x S = some (0, S)) := by
  unfold fn_X8_isDay fn_X9_isDay fn_X8_isDay_15 fn_X8_isDay_16 fn_X9_isDay_15 fn_X9_isDay_16
  by_cases c0 : x < 0
  · exact Or.inr ⟨fun S => (cd_t c0).trans (gd0 _), fun S => (cd_t c0).trans (gd0 _)⟩
  by_cases c1 : 1200 ≤ x
  · exact Or.inr ⟨fun S => (cd_f c0).trans ((cd_t c1).trans (gd0 _)), fun S => (cd_f c0).trans ((cd_t c1).trans (gd0 _))⟩
  · exact Or.inl ⟨n_lo c0 c1 (by decide), fun S => (cd_f c0).trans ((cd_f c1).trans (gd1 _)), fun S => (cd_f c0).trans ((cd_f c1).trans (gd1 _))⟩
theorem isKnown_C {SC SM : HS} (h : gI SC 0 13 = gI SM 0 3) (hv : vp_in (gI SM 0 3) 1200) (x : Int32) : (vp_in x 1200 ∧ ¬ gI SM 0 3 < x ∧ (∀ S, gI S 0 13 = gI SC 0 13 → fn_X8_isKnown x S = some (1, S)) ∧ ∀ S, gI S 0 3 = gI SM 0 3 → fn_X9_isKnown x S = some (1, S)) ∨ ((∀ S, gI S 0 13 = gI SC 0 13 → fn_X8_isKnown x S = some (0, S)) ∧ ∀ S, gI S 0 3 = gI SM 0 3 → fn_X9_isKnown x S = some (0, S)) := by
  unfold fn_X8_isKnown fn_X9_isKnown fn_X8_isKnown_16 fn_X8_isKnown_17 fn_X9_isKnown_16 fn_X9_isKnown_17
  by_cases c0 : x < 0
  · exact Or.inr ⟨fun S _ => (cd_t c0).trans (gd0 _), fun S _ => (cd_t c0).trans (gd0 _)⟩
  by_cases c1 : gI SM 0 3 < x
  · exact Or.inr ⟨fun S e => by rw [e, h]; exact (cd_f c0).trans ((cd_t c1).trans (gd0 _)), fun S e => by rw [e]; exact (cd_f c0).trans ((cd_t c1).trans (gd0 _))⟩
  · refine Or.inl ⟨?_, c1, fun S e => by rw [e, h]; exact (cd_f c0).trans ((cd_f c1).trans (gd1 _)), fun S e => by rw [e]; exact (cd_f c0).trans ((cd_f c1).trans (gd1 _))⟩
    rw [in_def] at *
    rw [t_lt] at c0 c1
    have : (0 : Int32).toInt = 0 := rfl
    omega
/-! lists -/
theorem take_s (xs : List Nat) {i : Nat} (h : i < xs.length) : xs.take (i + 1) = xs.take i ++ [xs.getD i 0] := by
  rw [List.take_succ, List.getD_eq_getElem?_getD, List.getElem?_eq_getElem h]; rfl
theorem getD_mem {xs : List Nat} {i : Nat} (h : i < xs.length) : xs.getD i 0 ∈ xs := by
  rw [List.getD_eq_getElem?_getD, List.getElem?_eq_getElem h]
  exact List.getElem_mem h
theorem getD_map {xs : List Nat} {f : Nat → Nat} {i : Nat} (h : i < xs.length) : (xs.map f).getD i 0 = f (xs.getD i 0) := by
  rw [List.getD_eq_getElem?_getD, List.getD_eq_getElem?_getD, List.getElem?_map, List.getElem?_eq_getElem h]; rfl
theorem len_alls {D : HS} (hd : DOK D) : ∀ a, a ≤ qA D → ((List.range a).flatMap (lns D)).length = qL D a := by
  intro a
  induction a with
  | zero => intro _; unfold qL; rw [hd.2.2.2.2.1]; rfl
  | succ a ih =>
    intro h
    rw [List.range_succ, List.flatMap_append, List.length_append, ih (by omega)]
    have h1 := (hd.2.2.2.2.2.2.1 a (by omega)).1
    have h2 : ([a].flatMap (lns D)).length = qL D (a + 1) - qL D a := by unfold lns; simp
    omega
theorem ncnt_le {D : HS} (hd : DOK D) (day : Nat) (K : Int32) (k : Nat) : ncnt D day K k (alls D) < 481 := by
  have h1 : ncnt D day K k (alls D) ≤ (alls D).length := List.countP_le_length
  have h2 := len_alls hd (qA D) (Nat.le_refl _)
  have h3 := (n_of_in (hd.2.2.2.2.2.1 (qA D) (Nat.le_refl _))).2
  have h4 : qL D (qA D) < 481 := h3
  unfold alls at h1
  unfold alls
  omega
theorem ncnt_some {D : HS} {day : Nat} {K : Int32} {k : Nat} : ∀ (qs : List (Nat × Nat)) (w : Option (Nat × Nat)), (1 ≤ qs.countP (hitb D day K k) ∨ ∃ q, w = some q) → ∃ q, qs.foldl (wLast D day K k) w = some q := by
  intro qs
  induction qs with
  | nil =>
    intro w h
    rcases h with h | h
    · simp at h
    · exact h
  | cons r rs ih =>
    intro w h
    rw [List.foldl_cons]
    apply ih
    by_cases hr : hit D day K k r
    · exact Or.inr ⟨r, wLast_t hr⟩
    · rw [wLast_f hr]
      rcases h with h | h
      · rw [List.countP_cons_of_neg (by rw [hitb_t]; exact hr)] at h
        exact Or.inl h
      · exact Or.inr h
/-- what both sides know after laws -/
theorem wg_wins {D : HS} {LA NL : List Nat} (h : ORel D LA NL) (day : Nat) (K : Int32) (k : Nat) : wg D day K k (LA.flatMap (lns D)) = wins D day K k := h.2.2.1 day K k
theorem ncnt_perm {D : HS} {LA NL : List Nat} (h : ORel D LA NL) (day : Nat) (K : Int32) (k : Nat) : ncnt D day K k (LA.flatMap (lns D)) = ncnt D day K k (alls D) :=
  (h.1.flatMap_right (lns D)).countP_eq _
/-! meet: rows on both sides -/
def MT (D : HS) (w : Nat → Option (Nat × Nat)) (cnt : Nat → Nat) (LA NL : List Nat) (oA oL oN : Nat → Nat) (m : Nat) (SC SM : HS) : Prop := DRel SC SM LA NL oA oL oN ∧ ERel SC SM ∧ MS D SM ∧ gI SC 20 2 = nI m ∧
  (∀ k, k < 156 → gR SC 8 k = (w k).map (fun q => oL q.2) ∧ (∀ q, w k = some q → gI SC 9 k = nI q.1) ∧ gI SC 10 k = nI (cnt k)) ∧ ∀ k, k < 156 → gI SM 21 k = agI (w k) ∧ gI SM 22 k = nI (cnt k)
theorem n_mod {a b : Nat} (ha : a < 2147483648) (hb : b < 2147483648) : nI a - nI a / nI b * nI b = nI (a % b) := by
  have h := Nat.div_add_mod a b
  rw [n_div ha hb, n_mul, n_sub (Nat.div_mul_le_self a b)]
  congr 1
  rw [Nat.mul_comm] at h
  omega
theorem meet_step {D : HS} {w : Nat → Option (Nat × Nat)} {cnt : Nat → Nat} {LA NL : List Nat} {oA oL oN : Nat → Nat} (hw : ∀ k q, w k = some q → q.2 < qL D (qA D) ∧ qK D q.2 = k) (hc : ∀ k, cnt k < 481) (hcw : ∀ k, 1 ≤ cnt k → ∃ q, w k = some q) {k m n n' : Nat} {SC SM : HS} (hk : k < 156) (hm : m ≤ k) (h : MT D w cnt LA NL oA oL oN m SC SM) :
    ∃ m' SC' SM', fn_X8_meet_92 (n + 1) (nI k) SC = fn_X8_meet_92 n (nI (k + 1)) SC' ∧ fn_X9_meet_36 (n' + 1) (nI k) SM = fn_X9_meet_36 n' (nI (k + 1)) SM' ∧ m' ≤ k + 1 ∧ MT D w cnt LA NL oA oL oN m' SC' SM' := by
  obtain ⟨d, e, ms, h20, hC8, hM8⟩ := h
  have hq := ms.q
  obtain ⟨c1, c2, c3⟩ := hC8 k hk
  obtain ⟨m1, m2⟩ := hM8 k hk
  have lc := hc k
  have f1 : ¬ (156 : Int32) ≤ nI k := by rw [n_lit, n_le (by omega) (by omega)]; omega
  have f1' : ¬ nI 156 ≤ nI k := f1
  have f2 : vp_in (nI k) 156 := (n_in (by omega)).mpr hk
  have f3 : (nI k).toNatClampNeg = k := n_cl (by omega)
  have f4 : nI k + 1 = nI (k + 1) := by rw [n_lit, n_add]
  have f5 : ¬ nI k < 0 := n_ge0 (by omega)
  have s1 : fn_X6_winnerOf (nI k) SC = some (gR SC 8 k, SC) := by
    unfold fn_X6_winnerOf fn_X6_winnerOf_23
    rw [cd_f f5, cd_f f1', gd_t f2, f3]
  have s2 : fn_X6_linesOf (nI k) SC = some (gI SC 10 k, SC) := by
    unfold fn_X6_linesOf fn_X6_linesOf_23
    rw [cd_f f5, cd_f f1', gd_t f2, f3]
  have s3 : fn_X6_agreementOf (nI k) SC = some (gI SC 9 k, SC) := by
    unfold fn_X6_agreementOf fn_X6_agreementOf_23
    rw [cd_f f5, cd_f f1', gd_t f2, f3]
  rcases Nat.lt_or_ge (cnt k) 2 with c | c
  · refine ⟨m, SC, SM, ?_, ?_, by omega, d, e, ms, h20, hC8, hM8⟩
    · conv => lhs; unfold fn_X8_meet_92
      rw [cd_f f1, s1, bn2_s, s2, bn2_s, c1, c3]
      unfold fn_X8_meet_161
      have g1 : nI (cnt k) ≤ 1 := by rw [n_lit, n_le (by omega) (by omega)]; omega
      cases w k with
      | none => simp only [Option.map_none, cs_none, bn_s, f4]
      | some q => simp only [Option.map_some, cs_some, g1, cd_T, bn_s, f4]
    · conv => lhs; unfold fn_X9_meet_36
      unfold fn_X9_meet_136
      have g1 : ¬ (2 : Int32) ≤ nI (cnt k) := by rw [n_lit, n_le (by omega) (by omega)]; omega
      simp only [f1, f2, f3, f4, m2, g1, cd_F, gd_T, bn_s]
  · obtain ⟨q, hq2⟩ := hcw k (by omega)
    obtain ⟨lq, kq⟩ := hw k q hq2
    rw [hq2] at c1 m1
    have c1 : gR SC 8 k = some (oL q.2) := c1
    have m1 : gI SM 21 k = nI q.1 := m1
    have c2 := c2 q hq2
    have lr := d.2.2.2.2.2.2.2.2.1 q.2 (by rw [hq.2.2.2.2.1, hq.1]; exact lq)
    obtain ⟨r1, r2, r3, r4, _⟩ := lr
    rw [hq.2.2.2.2.2, kq] at r3 r4
    have g1 : ¬ nI (cnt k) ≤ 1 := by rw [n_lit, n_le (by omega) (by omega)]; omega
    have g2 : (2 : Int32) ≤ nI (cnt k) := by rw [n_lit, n_le (by omega) (by omega)]; omega
    have hadd := add_4 (N := 624) (a := (nI (k / 26)).toInt64) (b := (nI (k % 26)).toInt64) (c := (nI q.1).toInt64) (e := (nI (cnt k)).toInt64) (hCk d.1 20 (by decide) rfl) h20 e.2.2.2.2.2.2.2.2.2.2.2.1 (hCr d.1 (by decide)) (hCk d.1 21 (by decide) rfl) (hCn d.1 21 (by decide) rfl) (by omega) (by decide)
    have h59 : gI SM 0 59 = nI m := by rw [← h20]; exact e.2.2.2.2.2.2.2.2.2.2.2.2.2.2.1.symm
    have t0 : 4 * nI m = nI (m * 4) := by rw [n_lit, n_mul, Nat.mul_comm]
    have t1 : nI (m * 4) + 1 = nI (m * 4 + 1) := by rw [n_lit, n_add]
    have t2 : nI (m * 4) + 2 = nI (m * 4 + 2) := by rw [n_lit, n_add]
    have t3 : nI (m * 4) + 3 = nI (m * 4 + 3) := by rw [n_lit, n_add]
    have t4 : nI m + 1 = nI (m + 1) := by rw [n_lit, n_add]
    have u0 : vp_in (nI (m * 4)) 624 := (n_in (by omega)).mpr (by omega)
    have u1 : vp_in (nI (m * 4 + 1)) 624 := (n_in (by omega)).mpr (by omega)
    have u2 : vp_in (nI (m * 4 + 2)) 624 := (n_in (by omega)).mpr (by omega)
    have u3 : vp_in (nI (m * 4 + 3)) 624 := (n_in (by omega)).mpr (by omega)
    have v0 : (nI (m * 4)).toNatClampNeg = m * 4 := n_cl (by omega)
    have v1 : (nI (m * 4 + 1)).toNatClampNeg = m * 4 + 1 := n_cl (by omega)
    have v2 : (nI (m * 4 + 2)).toNatClampNeg = m * 4 + 2 := n_cl (by omega)
    have v3 : (nI (m * 4 + 3)).toNatClampNeg = m * 4 + 3 := n_cl (by omega)
    have w1 : nI k / 26 = nI (k / 26) := by rw [n_lit, n_div (by omega) (by omega)]
    have w2 : nI k - nI (k / 26) * 26 = nI (k % 26) := by rw [← w1]; exact n_mod (b := 26) (by omega) (by omega)
    refine ⟨m + 1, sI (sJ (sJ (sJ (sJ SC 21 (m * 4) (nI (k / 26)).toInt64) 21 (m * 4 + 1) (nI (k % 26)).toInt64) 21 (m * 4 + 2) (nI q.1).toInt64) 21 (m * 4 + 3) (nI (cnt k)).toInt64) 20 2 (nI (m + 1)), sI (sI (sI (sI (sI SM 40 (m * 4) (nI (k / 26))) 40 (m * 4 + 1) (nI (k % 26))) 40 (m * 4 + 2) (nI q.1)) 40 (m * 4 + 3) (nI (cnt k))) 0 59 (nI (m + 1)), ?_, ?_, by omega, ?_⟩
    · conv => lhs; unfold fn_X8_meet_92
      unfold fn_X8_meet_161
      simp only [f1, f4, s1, s2, s3, c1, c2, c3, cs_some, g1, r2, r3, r4, hadd, cd_F, gd_T, bn_s, bn2_s]
    · conv => lhs; unfold fn_X9_meet_36
      unfold fn_X9_meet_136
      have x1 : ∀ (S : HS) (j : Nat) (v : Int32), gI (sI S 40 j v) 0 59 = gI S 0 59 := fun S j v => by rw [sI_ne (by decide)]
      have x2 : ∀ (S : HS) (j : Nat) (v : Int32), gI (sI S 40 j v) 21 = gI S 21 := fun S j v => sI_ne (by decide)
      have x3 : ∀ (S : HS) (j : Nat) (v : Int32), gI (sI S 40 j v) 22 = gI S 22 := fun S j v => sI_ne (by decide)
      simp only [f1, f2, f3, f4, m1, m2, g2, h59, t0, t1, t2, t3, t4, u0, u1, u2, u3, v0, v1, v2, v3, w1, w2, x1, x2, x3, cd_F, cd_T, gd_T, bn_s]
    · refine ⟨?_, ?_, ?_, sI_eq, ?_, ?_⟩
      · refine (MS_s0 (by decide)).DRel ((MS_sI (Or.inr (by decide))).DRel ((MS_sI (Or.inr (by decide))).DRel ((MS_sI (Or.inr (by decide))).DRel ((MS_sI (Or.inr (by decide))).DRel ?_))))
        exact DRel_sI (by decide) (by decide) (by decide) (DRel_sJ (DRel_sJ (DRel_sJ (DRel_sJ d))))
      · obtain ⟨⟨a1, a2, a3, a4, a5⟩, b1, b2, b3, b4, b5, b6, b7, b8, b9, b10, b11, b12, b13, b14, b15, b16, b17⟩ := e
        refine ⟨⟨a1, a2, a3, a4, show vp_in (nI (m + 1)) 157 from (n_in (by omega)).mpr (by omega)⟩, b1, b2, b3, b4, b5, b6, b7, b8, b9, b10, b11, b12, b13, rfl, b15, b16, ?_⟩
        intro k' j hk' hj
        have hk' : k' < m + 1 := by
          have : (gI (sI (sI (sI (sI (sI SM 40 (m * 4) (nI (k / 26))) 40 (m * 4 + 1) (nI (k % 26))) 40 (m * 4 + 2) (nI q.1)) 40 (m * 4 + 3) (nI (cnt k))) 0 59 (nI (m + 1))) 0 59).toNatClampNeg = m + 1 := by rw [sI_eq, n_cl (by omega)]
          rw [this] at hk'; exact hk'
        rw [gJ_sI, sI_ne (by decide)]
        rcases Nat.lt_or_ge k' m with l | l
        · rw [sJ_nk (by omega), sJ_nk (by omega), sJ_nk (by omega), sJ_nk (by omega), sI_nk (by omega), sI_nk (by omega), sI_nk (by omega), sI_nk (by omega)]
          exact b17 k' j (by rw [h59, n_cl (by omega)]; exact l) hj
        · have : k' = m := by omega
          subst this
          rw [Nat.mul_comm 4 k']
          rcases (by omega : j = 0 ∨ j = 1 ∨ j = 2 ∨ j = 3) with rfl | rfl | rfl | rfl
          · rw [sJ_nk (by omega), sJ_nk (by omega), sJ_nk (by omega), sI_nk (by omega), sI_nk (by omega), sI_nk (by omega)]
            exact sJ_eq.trans (congrArg Int32.toInt64 sI_eq.symm)
          · rw [sJ_nk (by omega), sJ_nk (by omega), sI_nk (by omega), sI_nk (by omega)]
            exact sJ_eq.trans (congrArg Int32.toInt64 sI_eq.symm)
          · rw [sJ_nk (by omega), sI_nk (by omega)]
            exact sJ_eq.trans (congrArg Int32.toInt64 sI_eq.symm)
          · exact sJ_eq.trans (congrArg Int32.toInt64 sI_eq.symm)
      · exact ((((ms.tr (MS_sI (Or.inr (by decide)))).tr (MS_sI (Or.inr (by decide)))).tr (MS_sI (Or.inr (by decide)))).tr (MS_sI (Or.inr (by decide)))).tr (MS_s0 (by decide))
      · exact hC8
      · intro j hj
        have := hM8 j hj
        rw [sI_ne (by decide), sI_ne (by decide), sI_ne (by decide), sI_ne (by decide), sI_ne (by decide), sI_ne (by decide), sI_ne (by decide), sI_ne (by decide), sI_ne (by decide), sI_ne (by decide)]
        exact this
theorem meet_rows {D : HS} {w : Nat → Option (Nat × Nat)} {cnt : Nat → Nat} {LA NL : List Nat} {oA oL oN : Nat → Nat} (hw : ∀ k q, w k = some q → q.2 < qL D (qA D) ∧ qK D q.2 = k) (hc : ∀ k, cnt k < 481) (hcw : ∀ k, 1 ≤ cnt k → ∃ q, w k = some q) : ∀ (i k m n n' : Nat) (SC SM : HS), k + i = 156 → i < n → i < n' → m ≤ k → MT D w cnt LA NL oA oL oN m SC SM →
    ∃ r Z1 Z2, fn_X8_meet_92 n (nI k) SC = some (r, Z1) ∧ fn_X9_meet_36 n' (nI k) SM = some (r, Z2) ∧ RR 0 Z1 Z2 := by
  intro i
  induction i with
  | zero =>
    intro k m n n' SC SM e hn hn' hm h
    obtain ⟨n, rfl⟩ : ∃ k, n = k + 1 := ⟨n - 1, by omega⟩
    obtain ⟨n', rfl⟩ : ∃ k, n' = k + 1 := ⟨n' - 1, by omega⟩
    have e : k = 156 := by omega
    subst e
    refine ⟨gI SC 20 2, SC, SM, ?_, ?_, h.2.1, LA, NL, oA, oL, oN, h.1⟩
    · unfold fn_X8_meet_92; exact cd_t (by decide)
    · unfold fn_X9_meet_36
      rw [h.2.1.2.2.2.2.2.2.2.2.2.2.2.2.2.2.1]
      exact cd_t (by decide)
  | succ i ih =>
    intro k m n n' SC SM e hn hn' hm h
    obtain ⟨n, rfl⟩ : ∃ k, n = k + 1 := ⟨n - 1, by omega⟩
    obtain ⟨n', rfl⟩ : ∃ k, n' = k + 1 := ⟨n' - 1, by omega⟩
    obtain ⟨m', SC', SM', q1, q2, q3, q4⟩ := meet_step (n := n) (n' := n') hw hc hcw (by omega : k < 156) hm h
    rw [q1, q2]
    exact ih (k + 1) m' n n' SC' SM' (by omega) (by omega) (by omega) q3 q4
/-- the class's agreements of a day are taken -/
theorem meet_26 {S D : HS} {LA NL : List Nat} {oA oL oN : Nat → Nat} {sc : Option Nat} (d : DRel S D LA NL oA oL oN) {day : Nat} {K : Int32} (hday : day < 1200) : ∀ (i j m : Nat) (A : AA) (R : Nat → Option Nat), j + i = LA.length → i < m → LC D oL day K ((LA.take j).flatMap (lns D)) A R →
    ∃ A' R', fn_X8_meet_26 m (nI day) K (nI j) (mc S A R sc) = bn (fn_X5_clear 20 (mc S A' R' sc)) (fun S3 => fn_X8_meet_92 hFuel 0 S3) ∧ LC D oL day K (LA.flatMap (lns D)) A' R' := by
  have hd := d.2.2.1
  have la : qA D < 13 := (n_of_in hd.1).2
  obtain ⟨k4, s4, l4, k5, s5, l5⟩ := sz_A d
  have hsz : ∀ A R, fl_size 4 (mc S A R sc) = some (nI LA.length, mc S A R sc) := fun A R => by
    rw [fz (by exact k4), mc_lo (by decide), s4, l4]; exact congrArg (fun x => some (x, mc S A R sc)) (n_of_in hd.1).1
  intro i
  induction i with
  | zero =>
    intro j m A R e hm h
    obtain ⟨m, rfl⟩ : ∃ k, m = k + 1 := ⟨m - 1, by omega⟩
    have e : j = LA.length := by omega
    subst e
    rw [List.take_length] at h
    refine ⟨A, R, ?_, h⟩
    conv => lhs; unfold fn_X8_meet_26
    rw [hsz, bn2_s, cd_t (Int32.le_refl _)]
  | succ i ih =>
    intro j m A R e hm h
    obtain ⟨m, rfl⟩ : ∃ k, m = k + 1 := ⟨m - 1, by omega⟩
    have hj : j < LA.length := by omega
    have hget : ∀ A R, fl_get 4 (nI j) (mc S A R sc) = some (some (oA (LA.getD j 0)), mc S A R sc) := fun A R => by
      rw [JG_get (mc_DRel d).2.2.2.2.1 (by rw [List.length_map]; exact hj) (by decide), getD_map hj]
    generalize ea : LA.getD j 0 = a at *
    have ha : a < qA D := by
      have := getD_mem hj
      rw [ea] at this
      exact List.mem_range.mp (d.2.2.2.1.1.mem_iff.mp this)
    have eT : (LA.take (j + 1)).flatMap (lns D) = (LA.take j).flatMap (lns D) ++ lns D a := by rw [take_s LA hj, List.flatMap_append, ea]; simp
    obtain ⟨a1, a2, a3, a4, a5, _⟩ := d.2.2.2.2.2.2.2.1 a ha
    have s1 : ∀ A R, gI (mc S A R sc) (oA a) 1 = nI (qF D a) := fun A R => by rw [mc_hi (by omega), a4]; exact (n_of_in (hd.2.2.2.1 a ha)).1
    have s2 : ∀ A R, gI (mc S A R sc) (oA a) 2 = gI D 2 a := fun A R => by rw [mc_hi (by omega), a5]
    have l11 : qF D a < 1200 := (n_of_in (hd.2.2.2.1 a ha)).2
    have f1 : ¬ nI LA.length ≤ nI j := by rw [n_le (by omega) (by omega)]; omega
    have f2 : nI j + 1 = nI (j + 1) := by rw [n_lit, n_add]
    have hno : ¬ (gI D 2 a ≤ K ∧ qF D a ≤ day) → LC D oL day K ((LA.take (j + 1)).flatMap (lns D)) A R := by
      intro hn k hk
      obtain ⟨w1, w2, w3⟩ := wf_skip (D := D) (day := day) (K := K) (k := k) (qs := (LA.take j).flatMap (lns D)) (rs := lns D a) (fun q hq z => hn (by have := (mem_lns.mp hq).1; rw [← this]; exact z.2))
      rw [eT, w2, w3]
      exact h k hk
    by_cases c1 : nI day < nI (qF D a)
    · obtain ⟨A2, R2, r1, r2⟩ := ih (j + 1) m A R (by omega) (by omega) (hno (fun z => by rw [n_lt (by omega) (by omega)] at c1; omega))
      refine ⟨A2, R2, ?_, r2⟩
      rw [← r1]
      conv => lhs; unfold fn_X8_meet_26
      simp only [hsz, hget, s1, f1, f2, mc_K, a2, c1, cd_F, cd_T, gd_T, bn_s, bn2_s, fn_X8_meet_77]
    by_cases c2 : K < gI D 2 a
    · obtain ⟨A2, R2, r1, r2⟩ := ih (j + 1) m A R (by omega) (by omega) (hno (fun z => absurd z.1 (by simpa using c2)))
      refine ⟨A2, R2, ?_, r2⟩
      rw [← r1]
      conv => lhs; unfold fn_X8_meet_26
      simp only [hsz, hget, s1, s2, f1, f2, mc_K, a2, c1, c2, cd_F, cd_T, gd_T, bn_s, bn2_s, fn_X8_meet_77]
    · have c2' : gI D 2 a ≤ K := by simpa using c2
      obtain ⟨A1, R1, q1, q2, _⟩ := take_C (sc := sc) d ha ⟨c2', by rw [n_lt (by omega) (by omega)] at c1; omega⟩ h
      obtain ⟨A2, R2, r1, r2⟩ := ih (j + 1) m A1 R1 (by omega) (by omega) (by rw [eT]; exact q2)
      refine ⟨A2, R2, ?_, r2⟩
      rw [← r1]
      conv => lhs; unfold fn_X8_meet_26
      simp only [hsz, hget, s1, s2, f1, f2, mc_K, a2, c1, c2, q1, cd_F, gd_T, bn_s, bn2_s, fn_X8_meet_77]
theorem m_meet (x1 x2 : Int32) : LIi RR (fn_X8_meet x1 x2) (fn_X9_meet x1 x2) := by
  refine LIi_of (fun SC SM hr => ?_)
  have hr' := RR_t hr
  have hr0 := hr
  obtain ⟨e, LA, NL, oA, oL, oN, d⟩ := hr
  unfold fn_X8_meet fn_X9_meet fn_X8_meet_15 fn_X9_meet_21
  simp only [bn_s]
  rcases isDay_C x1 with ⟨v1, i1, i2⟩ | ⟨i1, i2⟩
  · rcases isKnown_C e.2.1 e.1.1 x2 with ⟨v2, _, i3, i4⟩ | ⟨i3, i4⟩
    · obtain ⟨day, ld, rfl⟩ := n_ex v1
      simp only [i1, i2, bn2_s, i3 SC rfl, i4 (sI SM 0 0 0) (sI_nk (by decide))]
      rw [cd_f (by decide), cd_f (by decide), cd_f (by decide), cd_f (by decide)]
      have d' : DRel SC (sI SM 0 0 0) LA NL oA oL oN := (MS_s0 (by decide)).DRel d
      have e' : ERel SC (sI SM 0 0 0) := ES_t.ERel e
      generalize sI SM 0 0 0 = D at *
      obtain ⟨A1, R1, q1, q2, _⟩ := clear_C (S := SC) (sc := gR SC 12 0) d'.1 (A := gI SC) (R := gR SC 8) D oL day x2
      rw [mc_self] at q1
      obtain ⟨A2, R2, r1, r2⟩ := meet_26 (sc := gR SC 12 0) d' (K := x2) ld LA.length 0 hFuel A1 R1 (by omega) (by have := (n_of_in d'.2.2.1.1).2; have := (sz_A d').2.2.1; unfold hFuel; unfold qA at *; omega) (by simpa using q2)
      obtain ⟨A3, p1, p2, p3⟩ := lawsOf_M (A := gI D) (J := gJ D 34) (day := day) (K := x2) d'.2.2.1 (by omega)
      rw [mk_self] at p1
      have hrow := meet_rows (D := D) (w := fun k => wins D day x2 k) (cnt := fun k => ncnt D day x2 k (alls D)) (LA := LA) (NL := NL) (oA := oA) (oL := oL) (oN := oN) (fun k q hq => ⟨(wins_mem d'.2.2.1 hq).2.1, (wins_mem d'.2.2.1 hq).2.2.1⟩) (fun k => ncnt_le d'.2.2.1 day x2 k) (fun k hk => by
        have := ncnt_some (D := D) (day := day) (K := x2) (k := k) (LA.flatMap (lns D)) none (Or.inl (by have := ncnt_perm d'.2.2.2.1 day x2 k; unfold ncnt at this hk; rw [this]; exact hk))
        obtain ⟨q, hq⟩ := this
        exact ⟨q, by rw [← wg_wins d'.2.2.2.1]; exact hq⟩) 156 0 0 hFuel hFuel (sI (mc SC A2 R2 (gR SC 12 0)) 20 2 0) (sI (mk D A3 (gJ D 34)) 0 59 0) rfl (by decide) (by decide) (Nat.le_refl _) ?_
      · obtain ⟨r, Z1, Z2, z1, z2, z3⟩ := hrow
        refine ⟨r, Z1, Z2, ?_, ?_, z3⟩
        · rw [q1, bn_s]
          refine Eq.trans r1 ?_
          unfold fn_X5_clear
          rw [gd_t (hCk (κ := 6) (mc_hC d'.1) 20 (by decide) rfl)]
          exact z1
        · rw [p1, bn_s]
          exact z2
      · refine ⟨?_, ?_, mk_MS.tr (MS_s0 (by decide)), sI_eq, fun k hk => ?_, fun k hk => ?_⟩
        · exact (MS_s0 (by decide)).DRel (mk_MS.DRel (DRel_sI (by decide) (by decide) (by decide) (mc_DRel d')))
        · obtain ⟨⟨a1, a2, a3, a4, a5⟩, b1, b2, b3, b4, b5, b6, b7, b8, b9, b10, b11, b12, b13, b14, b15, b16, b17⟩ := e'
          exact ⟨⟨a1, a2, a3, a4, show vp_in (nI 0) 157 from (n_in (by decide)).mpr (by decide)⟩, b1, b2, b3, b4, b5, b6, b7, b8, b9, b10, b11, b12, b13, rfl, b15, b16, fun k j hk hj => absurd hk (Nat.not_lt_zero k)⟩
        · obtain ⟨t1, t2, t3⟩ := r2 k hk
          rw [wg_wins d'.2.2.2.1] at t1 t2
          rw [ncnt_perm d'.2.2.2.1] at t3
          exact ⟨t1, t2, t3⟩
        · obtain ⟨t1, t2, t3⟩ := p2 k hk
          exact ⟨t2, t3⟩
    · simp only [i1, i2, bn2_s, i3 SC rfl, i4 (sI SM 0 0 0) (sI_nk (by decide))]
      exact ⟨-1, SC, sI SM 0 0 0, (cd_f (by decide)).trans (cd_t trivial), (cd_f (by decide)).trans (cd_t trivial), hr'⟩
  · simp only [i1, i2, bn2_s]
    exact ⟨-1, SC, sI SM 0 0 0, cd_t trivial, cd_t trivial, hr'⟩
