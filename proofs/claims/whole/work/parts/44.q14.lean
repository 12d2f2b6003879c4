/-! the reference's passes through the days -/
def dsum (D : HS) (K : Int32) (q m d : Nat) : Int64 := psum D K q (30 * m) (min 30 (d - 30 * m))
theorem dsum_s {D : HS} {K : Int32} {q m d : Nat} : dsum D K q m (d + 1) = if m = d / 30 then dsum D K q m d + payD D K q d else dsum D K q m d := by
  unfold dsum
  by_cases c : m = d / 30
  · rw [if_pos c, show min 30 (d + 1 - 30 * m) = min 30 (d - 30 * m) + 1 by omega]
    show psum D K q (30 * m) (min 30 (d - 30 * m)) + payD D K q (30 * m + min 30 (d - 30 * m)) = _
    rw [show 30 * m + min 30 (d - 30 * m) = d by omega]
  · rw [if_neg c, show min 30 (d + 1 - 30 * m) = min 30 (d - 30 * m) by omega]
/-- what the reference holds of a post behind a day -/
def RO (D : HS) (K : Int32) (d q : Nat) (A : AA) : Prop := A 26 q = dPts D (wl D K d) (vv D K d q) ∧ A 27 q = oI (dGr D (wl D K d) (vv D K d q)) ∧ A 28 q = dSt D (wl D K d) (vv D K d q) (sa D K (per D q) d).1 ∧ A 29 q = dBa D (wl D K d) (vv D K d q) (sa D K (per D q) d).1 ∧ A 30 q = aOf D K d q ∧ A 31 q = (flo D K q d).2.2 ∧ A 32 q = (flo D K q d).2.1 ∧ A 33 q = (flo D K q d).1
theorem fnx_f {hd am : Int32} {t : Int32 × Int32} : (fnx hd am t).2.1 = t.2 := by
  unfold fnx
  split
  · rfl
  · split <;> rfl
theorem i64_ne {x : Nat} (h1 : 1 ≤ x % 10) (h2 : x < 89) : ¬ (nI x - nI x / 10 * 10 : Int32).toInt64 = 0 := by
  rw [show nI x - nI x / 10 * 10 = nI (x % 10) from n_mod (b := 10) (by omega) (by omega)]
  have : ∀ y : Fin 10, 1 ≤ y.val → ¬ (nI y.val).toInt64 = 0 := by decide
  exact this ⟨x % 10, by omega⟩ h1
theorem post_step {D : HS} (hd : DOK D) {K x1 x2 : Int32} {d q m : Nat} {A : AA} {J : Nat → Int64} {k114 : Int32 → Int32 → Int32 → HS → Option HS} (ld : d < 1200) (hq : q < qP D) (hA : WA (wl D K d) A) (hv : ∀ q w, q < 8 → w < 9 → A 23 (9 * q + w) = vv D K d q w) (hs : ∀ w, w < 8 → A 24 w = nI (sa D K w d).1)
    (h31 : (A 33 q, A 32 q) = (dn D d).foldl (pfl D K q (fpr D K q d).2.2) ((fpr D K q d).1, (fpr D K q d).2.1)) :
    ∃ A', fn_X9_passes_150 k114 (m + 1) x1 x2 (nI d) (nI q) (mk D A J) = fn_X9_passes_150 k114 m x1 x2 (nI d) (nI (q + 1)) (mk D A' (up1 J (40 * q + d / 30) (J (40 * q + d / 30) + payD D K q d))) ∧ RO D K d q A' ∧ (∀ c, c < 26 → A' c = A c) ∧ ∀ c j, j ≠ q → A' c j = A c j := by
  have l28 : qP D < 9 := (n_of_in hd.2.1).2
  have e28 : gI D 0 28 = nI (qP D) := (n_of_in hd.2.1).1
  have e14 : gI D 14 q = nI (per D q) := (n_of_in (hd.2.2.2.2.2.2.2.2.2 q (by omega))).1
  have l14 : per D q < 8 := (n_of_in (hd.2.2.2.2.2.2.2.2.2 q (by omega))).2
  have hW := wl_WOK hd K d
  have lsa := (sa_b (D := D) (K := K) (who := per D q) d).1
  have hst := stands_M (J := J) (V := vv D K d q) hW hA (by omega : q < 8) (fun j hj => (hv q j (by omega) (by omega)).symm) e14 l14 (hs _ l14) (by omega)
  have hV7 := hv q 7 (by omega) (by decide)
  have hV6 := hv q 6 (by omega) (by decide)
  obtain ⟨_, _, x, ex, lx, mx⟩ := vv_K hd (K := K) d q
  have hne := i64_ne mx lx
  have f1 : ¬ nI (qP D) ≤ nI q := by rw [n_le (by omega) (by omega)]; omega
  have f2 : vp_in (nI q) 8 := (n_in (by omega)).mpr (by omega)
  have f3 : (nI q).toNatClampNeg = q := n_cl (by omega)
  have f4 : nI q + 1 = nI (q + 1) := by rw [n_lit, n_add]
  have t7 : 9 * nI q + 7 = nI (9 * q + 7) := by rw [n_lit, n_mul, n_lit, n_add]
  have f7 : vp_in (nI (9 * q + 7)) 72 := (n_in (by omega)).mpr (by omega)
  have g7 : (nI (9 * q + 7)).toNatClampNeg = 9 * q + 7 := n_cl (by omega)
  have t4 : 40 * nI q + nI d / 30 = nI (40 * q + d / 30) := by rw [n_lit, n_mul, n_lit, n_div (by omega) (by omega), n_add]
  have f8 : vp_in (nI (40 * q + d / 30)) 320 := (n_in (by omega)).mpr (by omega)
  have g8 : (nI (40 * q + d / 30)).toNatClampNeg = 40 * q + d / 30 := n_cl (by omega)
  have hgv := gives_M (D := D) (J := J) (A := stA D (wl D K d) (vv D K d q) (sa D K (per D q) d).1 q A) (by omega : q < 8)
  have s23 : stA D (wl D K d) (vv D K d q) (sa D K (per D q) d).1 q A 23 = A 23 := by unfold stA; rw [up2_ne (by decide), up2_ne (by decide), up2_ne (by decide), up2_ne (by decide), up2_ne (by decide)]
  have s32 : stA D (wl D K d) (vv D K d q) (sa D K (per D q) d).1 q A 32 = A 32 := by unfold stA; rw [up2_ne (by decide), up2_ne (by decide), up2_ne (by decide), up2_ne (by decide), up2_ne (by decide)]
  have s33 : stA D (wl D K d) (vv D K d q) (sa D K (per D q) d).1 q A 33 = A 33 := by unfold stA; rw [up2_ne (by decide), up2_ne (by decide), up2_ne (by decide), up2_ne (by decide), up2_ne (by decide)]
  have s30 : stA D (wl D K d) (vv D K d q) (sa D K (per D q) d).1 q A 30 q = aOf D K d q := by unfold stA; rw [up2_eq]; rfl
  rw [s23, s30, s32, s33, hV6, h31, ← flo_eq] at hgv
  refine ⟨up2 (up2 (stA D (wl D K d) (vv D K d q) (sa D K (per D q) d).1 q A) 33 q (flo D K q d).1) 31 q (flo D K q d).2.2, ?_, ⟨?_, ?_, ?_, ?_, ?_, ?_, ?_, ?_⟩, fun c hc => ?_, fun c j hj => ?_⟩
  · conv => lhs; unfold fn_X9_passes_150
    have h7 : up2 (up2 (stA D (wl D K d) (vv D K d q) (sa D K (per D q) d).1 q A) 33 q (flo D K q d).1) 31 q (flo D K q d).2.2 23 (9 * q + 7) = nI x := by
      rw [up2_ne (by decide), up2_ne (by decide), s23, hV7, ex]
    simp only [mk_g0, e28, f1, f2, f3, f4, hst, hgv, t7, f7, g7, t4, f8, g8, mk_a23, mk_a31, up2_eq, mk_j, mk_sJ, cd_F, gd_T, bn_s, h7, hne, not_false_eq_true]
    unfold payD payI
    rw [ex]
  · rw [up2_ne (by decide), up2_ne (by decide)]; unfold stA
    rw [up2_ne (by decide), up2_ne (by decide), up2_ne (by decide), up2_ne (by decide), up2_eq]
  · rw [up2_ne (by decide), up2_ne (by decide)]; unfold stA
    rw [up2_ne (by decide), up2_ne (by decide), up2_ne (by decide), up2_eq]
  · rw [up2_ne (by decide), up2_ne (by decide)]; unfold stA
    rw [up2_ne (by decide), up2_ne (by decide), up2_eq]
  · rw [up2_ne (by decide), up2_ne (by decide)]; unfold stA
    rw [up2_ne (by decide), up2_eq]
  · rw [up2_ne (by decide), up2_ne (by decide)]; exact s30
  · rw [up2_eq]
  · rw [up2_ne (by decide), up2_ne (by decide), s32, flo_eq, fnx_f, ← h31]
  · rw [up2_ne (by decide), up2_eq]
  · rw [up2_ne (by omega), up2_ne (by omega)]; unfold stA
    rw [up2_ne (by omega), up2_ne (by omega), up2_ne (by omega), up2_ne (by omega), up2_ne (by omega)]
  · rw [up2_nk hj, up2_nk hj]; unfold stA
    rw [up2_nk hj, up2_nk hj, up2_nk hj, up2_nk hj, up2_nk hj]
theorem posts_M {D : HS} (hd : DOK D) {K x1 x2 : Int32} {d : Nat} {k114 : Int32 → Int32 → Int32 → HS → Option HS} (ld : d < 1200) : ∀ (i q m : Nat) (A : AA) (J : Nat → Int64), q + i = qP D → i < m → WA (wl D K d) A → (∀ q w, q < 8 → w < 9 → A 23 (9 * q + w) = vv D K d q w) → (∀ w, w < 8 → A 24 w = nI (sa D K w d).1) →
    (∀ q', q ≤ q' → q' < qP D → (A 33 q', A 32 q') = (dn D d).foldl (pfl D K q' (fpr D K q' d).2.2) ((fpr D K q' d).1, (fpr D K q' d).2.1)) → (∀ q', q' < q → RO D K d q' A) → (∀ q' mo, q' < qP D → mo < 40 → J (40 * q' + mo) = if q' < q then dsum D K q' mo (d + 1) else dsum D K q' mo d) →
    ∃ A' J', fn_X9_passes_150 k114 m x1 x2 (nI d) (nI q) (mk D A J) = k114 x1 x2 (nI (d + 1)) (mk D A' J') ∧ (∀ q', q' < qP D → RO D K d q' A') ∧ (∀ c, c < 26 → A' c = A c) ∧ ∀ q' mo, q' < qP D → mo < 40 → J' (40 * q' + mo) = dsum D K q' mo (d + 1) := by
  intro i
  induction i with
  | zero =>
    intro q m A J e hm hA hv hs h33 hO hJ
    obtain ⟨m, rfl⟩ : ∃ k, m = k + 1 := ⟨m - 1, by omega⟩
    have e : q = qP D := by omega
    subst e
    refine ⟨A, J, ?_, hO, fun c _ => rfl, fun q' mo h1 h2 => by rw [hJ q' mo h1 h2, if_pos h1]⟩
    conv => lhs; unfold fn_X9_passes_150
    rw [mk_g0, show gI D 0 28 = nI (qP D) from (n_of_in hd.2.1).1, cd_t (Int32.le_refl _), bn_s, show nI d + 1 = nI (d + 1) by rw [n_lit, n_add]]
  | succ i ih =>
    intro q m A J e hm hA hv hs h33 hO hJ
    obtain ⟨m, rfl⟩ : ∃ k, m = k + 1 := ⟨m - 1, by omega⟩
    have hq : q < qP D := by omega
    obtain ⟨A1, p1, p2, p3, p4⟩ := post_step (x1 := x1) (x2 := x2) (m := m) (J := J) (k114 := k114) hd ld hq hA hv hs (h33 q (Nat.le_refl _) hq)
    rw [p1]
    obtain ⟨A2, J2, r1, r2, r3, r4⟩ := ih (q + 1) m A1 (up1 J (40 * q + d / 30) (J (40 * q + d / 30) + payD D K q d)) (by omega) (by omega) (fun k hk => by rw [p3 20 (by decide)]; exact hA k hk) (fun q w h1 h2 => by rw [p3 23 (by decide)]; exact hv q w h1 h2) (fun w hw => by rw [p3 24 (by decide)]; exact hs w hw) (fun q' h1 h2 => by rw [p4 33 q' (by omega), p4 32 q' (by omega)]; exact h33 q' (by omega) h2) (fun q' h1 => by
      by_cases c : q' = q
      · subst c; exact p2
      · have := hO q' (by omega)
        unfold RO at *
        rw [p4 26 q' c, p4 27 q' c, p4 28 q' c, p4 29 q' c, p4 30 q' c, p4 31 q' c, p4 32 q' c, p4 33 q' c]
        exact this) (fun q' mo h1 h2 => by
      have h0 := hJ q' mo h1 h2
      have l28 : qP D < 9 := (n_of_in hd.2.1).2
      by_cases c : q' = q
      · subst c
        rw [if_neg (by omega)] at h0
        rw [if_pos (by omega), dsum_s]
        by_cases c2 : mo = d / 30
        · subst c2; rw [up1_eq, if_pos rfl, h0]
        · rw [up1_ne (by omega), if_neg c2, h0]
      · rw [up1_ne (by omega), h0]
        by_cases c3 : q' < q
        · rw [if_pos c3, if_pos (by omega)]
        · rw [if_neg c3, if_neg (by omega)])
    exact ⟨A2, J2, r1, r2, fun c hc => (r3 c hc).trans (p3 c hc), r4⟩
/-- what the reference holds ahead of a day -/
def RP (D : HS) (K : Int32) (d : Nat) (A : AA) (J : Nat → Int64) : Prop := (∀ q w, q < 8 → w < 9 → A 23 (9 * q + w) = vpr D K d q w) ∧ (∀ w, w < 8 → A 24 w = nI (sa D K w (d - 1)).1 ∧ A 25 w = nI (sa D K w (d - 1)).2) ∧ (∀ q, q < qP D → A 31 q = (fpr D K q d).2.2 ∧ A 32 q = (fpr D K q d).2.1 ∧ A 33 q = (fpr D K q d).1) ∧ (0 < d → WA (wl D K (d - 1)) A) ∧ (∀ q mo, q < qP D → mo < 40 → J (40 * q + mo) = dsum D K q mo d) ∧ (0 < d → ∀ q, q < qP D → RO D K (d - 1) q A)
theorem day_M {D : HS} (hd : DOK D) {K x2 : Int32} {d m : Nat} {A : AA} {J : Nat → Int64} (ld : d < 1200) (hx : ¬ x2 < nI d) (h : RP D K d A J) : ∃ A' J', fn_X9_passes_114 (m + 1) K x2 (nI d) (mk D A J) = fn_X9_passes_114 m K x2 (nI (d + 1)) (mk D A' J') ∧ RP D K (d + 1) A' J' := by
  obtain ⟨h1, h2, h3, h4, h5, _⟩ := h
  -- service
  have hsv : ∃ A1, (cd (nI d ≤ 0) (fn_X9_passes_127 (fn_X9_passes_114 m) K x2 (nI d) (mk D A J)) (bn (fn_X9_serves (mk D A J)) (fun S1 => fn_X9_passes_127 (fn_X9_passes_114 m) K x2 (nI d) S1))) = fn_X9_passes_127 (fn_X9_passes_114 m) K x2 (nI d) (mk D A1 J) ∧ (∀ w, w < 8 → A1 24 w = nI (sa D K w d).1 ∧ A1 25 w = nI (sa D K w d).2) ∧ ∀ c, c ≠ 24 → c ≠ 25 → A1 c = A c := by
    rcases Nat.eq_zero_or_pos d with c | c
    · subst c
      exact ⟨A, cd_t (by decide), h2, fun c _ _ => rfl⟩
    · obtain ⟨e, rfl⟩ : ∃ e, d = e + 1 := ⟨d - 1, by omega⟩
      obtain ⟨A1, q1, q2, q3⟩ := serves_M (J := J) hd (by omega : e < 1200) (h4 (by omega)) h1 h2
      refine ⟨A1, ?_, q2, q3⟩
      rw [cd_f (by rw [n_lit, n_le (by omega) (by omega)]; omega), q1, bn_s]
  obtain ⟨A1, s1, s2, s3⟩ := hsv
  -- laws
  have hlw : ∃ A2, fn_X9_passes_127 (fn_X9_passes_114 m) K x2 (nI d) (mk D A1 J) = fn_X9_passes_141 (fn_X9_passes_114 m) K x2 (nI d) (mk D A2 J) ∧ WA (wl D K d) A2 ∧ ∀ c, c ≠ 20 → c ≠ 21 → c ≠ 22 → A2 c = A1 c := by
    unfold fn_X9_passes_127
    obtain ⟨r, q1, q2⟩ := isBeg_M (A := A1) (J := J) hd (by omega : d < 2147483648)
    rw [q1, bn2_s]
    rcases q2 with rfl | ⟨rfl, q3, q4⟩
    · obtain ⟨A2, p1, p2, p3⟩ := lawsOf_M (A := A1) (J := J) (K := K) hd (by omega : d < 2147483648)
      refine ⟨A2, ?_, fun k hk => ?_, p3⟩
      · rw [cd_f (by decide), p1, bn_s]
      · rw [(p2 k hk).1]; exact lnI_wl
    · refine ⟨A1, cd_t rfl, fun k hk => ?_, fun c _ _ _ => rfl⟩
      rw [s3 20 (by decide) (by decide), h4 (by omega) k hk, wl_same hd (K := K) (d := d - 1) (d' := d) (by omega) (fun b hb _ z1 z2 => q4 b hb (by omega))]
  obtain ⟨A2, l1, l2, l3⟩ := hlw
  have e23 : A2 23 = A 23 := (l3 23 (by decide) (by decide) (by decide)).trans (s3 23 (by decide) (by decide))
  have e31 : A2 31 = A 31 := (l3 31 (by decide) (by decide) (by decide)).trans (s3 31 (by decide) (by decide))
  have e32 : A2 32 = A 32 := (l3 32 (by decide) (by decide) (by decide)).trans (s3 32 (by decide) (by decide))
  have e33 : A2 33 = A 33 := (l3 33 (by decide) (by decide) (by decide)).trans (s3 33 (by decide) (by decide))
  have e24 : A2 24 = A1 24 := l3 24 (by decide) (by decide) (by decide)
  have e25 : A2 25 = A1 25 := l3 25 (by decide) (by decide) (by decide)
  -- notes
  obtain ⟨A3, n1, n2, n3, n4⟩ := notesOf_M (J := J) (K := K) (A := A2) (v := vpr D K d) hd (by omega : d < 2147483648) (fun q w z1 z2 => by rw [e23]; exact h1 q w z1 z2)
  -- posts
  have l28 : qP D < 9 := (n_of_in hd.2.1).2
  obtain ⟨A4, J4, p1, p2, p3, p4⟩ := posts_M (x1 := K) (x2 := x2) (K := K) (k114 := fn_X9_passes_114 m) hd ld (qP D) 0 hFuel A3 J (by omega) (by unfold hFuel; omega) (fun k hk => by rw [n4 20 (by decide) (by decide) (by decide)]; exact l2 k hk) (fun q w z1 z2 => by rw [n2 q w z1 z2, vv_eq]) (fun w hw => by rw [n4 24 (by decide) (by decide) (by decide), e24]; exact (s2 w hw).1) (fun q' _ z => by
      obtain ⟨t1, t2, t3⟩ := h3 q' z
      rw [n3 q' (by omega), e31, e32, e33, t1, t2, t3]) (fun q' z => absurd z (Nat.not_lt_zero _)) (fun q' mo z1 z2 => by rw [if_neg (by omega)]; exact h5 q' mo z1 z2)
  refine ⟨A4, J4, ?_, ?_, ?_, ?_, ?_, p4, fun _ => p2⟩
  · conv => lhs; unfold fn_X9_passes_114
    rw [cd_f hx]
    refine s1.trans (l1.trans ?_)
    unfold fn_X9_passes_141
    rw [n1, bn_s]
    exact p1
  · intro q w z1 z2
    rw [p3 23 (by decide), n2 q w z1 z2, ← vv_eq]
    rfl
  · intro w hw
    rw [p3 24 (by decide), p3 25 (by decide), n4 24 (by decide) (by decide) (by decide), n4 25 (by decide) (by decide) (by decide), e24, e25]
    exact s2 w hw
  · intro q hq
    obtain ⟨_, _, _, _, _, t6, t7, t8⟩ := p2 q hq
    exact ⟨t6, t7, t8⟩
  · intro _ k hk
    rw [p3 20 (by decide), n4 20 (by decide) (by decide) (by decide)]
    exact l2 k hk
theorem days_M {D : HS} (hd : DOK D) {K x2 : Int32} {last : Nat} (hx : x2.toInt = (last : Int) - 1) (ll : last ≤ 1200) : ∀ (i d m : Nat) (A : AA) (J : Nat → Int64), d + i = last → i < m → RP D K d A J → ∃ A' J', fn_X9_passes_114 m K x2 (nI d) (mk D A J) = some (mk D A' J') ∧ RP D K last A' J' := by
  intro i
  induction i with
  | zero =>
    intro d m A J e hm h
    obtain ⟨m, rfl⟩ : ∃ k, m = k + 1 := ⟨m - 1, by omega⟩
    have e : d = last := by omega
    subst e
    refine ⟨A, J, ?_, h⟩
    conv => lhs; unfold fn_X9_passes_114
    exact cd_t (by rw [t_lt, n_int (by omega), hx]; omega)
  | succ i ih =>
    intro d m A J e hm h
    obtain ⟨m, rfl⟩ : ∃ k, m = k + 1 := ⟨m - 1, by omega⟩
    obtain ⟨A1, J1, q1, q2⟩ := day_M (m := m) (x2 := x2) hd (by omega : d < 1200) (by rw [t_lt, n_int (by omega), hx]; omega) h
    rw [q1]
    exact ih (d + 1) m A1 J1 (by omega) (by omega) q2
/-! the start of passes -/
theorem init_11 {D : HS} {x1 x2 : Int32} {J : Nat → Int64} {k2 : Int32 → Int32 → Int32 → HS → Option HS} {p : Nat} (hp : p < 8) : ∀ (i w m : Nat) (A : AA), w + i = 9 → i < m → ∃ A', fn_X9_passes_11 k2 m x1 x2 (nI p) (nI w) (mk D A J) = k2 x1 x2 (nI (p + 1)) (mk D A' J) ∧ (∀ w', w ≤ w' → w' < 9 → A' 23 (9 * p + w') = v0 p w') ∧ (∀ j, j < 9 * p + w → A' 23 j = A 23 j) ∧ A' 24 p = 0 ∧ A' 25 p = 0 ∧ A' 31 p = 0 ∧ A' 32 p = 0 ∧ A' 33 p = 0 ∧ ∀ c j, c ≠ 23 → j ≠ p → A' c j = A c j := by
  have f2 : vp_in (nI p) 8 := (n_in (by omega)).mpr hp
  have f3 : (nI p).toNatClampNeg = p := n_cl (by omega)
  have f4 : nI p + 1 = nI (p + 1) := by rw [n_lit, n_add]
  intro i
  induction i with
  | zero =>
    intro w m A e hm
    obtain ⟨m, rfl⟩ : ∃ k, m = k + 1 := ⟨m - 1, by omega⟩
    have e : w = 9 := by omega
    subst e
    refine ⟨up2 (up2 (up2 (up2 (up2 A 24 p 0) 25 p 0) 31 p 0) 32 p 0) 33 p 0, ?_, fun w' h1 h2 => by omega, fun j hj => ?_, ?_, ?_, ?_, ?_, up2_eq, fun c j h1 h2 => ?_⟩
    · conv => lhs; unfold fn_X9_passes_11
      rw [cd_t (by decide)]
      simp only [f2, f3, f4, gd_T, bn_s, mk_s24, mk_s25, mk_s31, mk_s32, mk_s33]
    · rw [up2_ne (by decide), up2_ne (by decide), up2_ne (by decide), up2_ne (by decide), up2_ne (by decide)]
    · rw [up2_ne (by decide), up2_ne (by decide), up2_ne (by decide), up2_ne (by decide), up2_eq]
    · rw [up2_ne (by decide), up2_ne (by decide), up2_ne (by decide), up2_eq]
    · rw [up2_ne (by decide), up2_ne (by decide), up2_eq]
    · rw [up2_ne (by decide), up2_eq]
    · rw [up2_nk h2, up2_nk h2, up2_nk h2, up2_nk h2, up2_nk h2]
  | succ i ih =>
    intro w m A e hm
    obtain ⟨m, rfl⟩ : ∃ k, m = k + 1 := ⟨m - 1, by omega⟩
    obtain ⟨A', q1, q2, q3, q4, q5, q6, q7, q8, q9⟩ := ih (w + 1) m (up2 A 23 (9 * p + w) (v0 p w)) (by omega) (by omega)
    refine ⟨A', ?_, fun w' h1 h2 => ?_, fun j hj => ?_, q4, q5, q6, q7, q8, fun c j h1 h2 => ?_⟩
    · rw [← q1]
      conv => lhs; unfold fn_X9_passes_11
      unfold fn_X9_passes_42
      have t : 9 * nI p + nI w = nI (9 * p + w) := by rw [n_lit, n_mul, n_add]
      have g1 : ¬ (9 : Int32) ≤ nI w := by rw [n_lit, n_le (by omega) (by omega)]; omega
      have g2 : vp_in (nI (9 * p + w)) 72 := (n_in (by omega)).mpr (by omega)
      have g3 : (nI (9 * p + w)).toNatClampNeg = 9 * p + w := n_cl (by omega)
      have g4 : nI w + 1 = nI (w + 1) := by rw [n_lit, n_add]
      simp only [t, g1, g2, g3, g4, cd_F, gd_T, bn_s, mk_s23]
      unfold v0
      by_cases c : w = 7
      · rw [cd_t (by rw [c]; rfl), if_pos c]
      · rw [cd_f (by rw [n_lit, n_eq (by omega) (by omega)]; exact c), if_neg c]
    · by_cases c : w' = w
      · subst c; rw [q3 _ (by omega), up2_eq]
      · exact q2 w' (by omega) h2
    · rw [q3 j (by omega), up2_nk (by omega)]
    · rw [q9 c j h1 h2, up2_ne h1]
theorem init_2 {D : HS} {x1 x2 : Int32} {J : Nat → Int64} : ∀ (i p m : Nat) (A : AA), p + i = 8 → i < m → (∀ p' w, p' < p → w < 9 → A 23 (9 * p' + w) = v0 p' w) → (∀ p', p' < p → A 24 p' = 0 ∧ A 25 p' = 0 ∧ A 31 p' = 0 ∧ A 32 p' = 0 ∧ A 33 p' = 0) → ∃ A', fn_X9_passes_2 m x1 x2 (nI p) (mk D A J) = fn_X9_passes_92 hFuel x1 x2 0 (mk D A' J) ∧ (∀ p' w, p' < 8 → w < 9 → A' 23 (9 * p' + w) = v0 p' w) ∧ ∀ p', p' < 8 → A' 24 p' = 0 ∧ A' 25 p' = 0 ∧ A' 31 p' = 0 ∧ A' 32 p' = 0 ∧ A' 33 p' = 0 := by
  intro i
  induction i with
  | zero =>
    intro p m A e hm h1 h2
    obtain ⟨m, rfl⟩ : ∃ k, m = k + 1 := ⟨m - 1, by omega⟩
    have e : p = 8 := by omega
    subst e
    refine ⟨A, ?_, h1, h2⟩
    conv => lhs; unfold fn_X9_passes_2
    exact cd_t (by decide)
  | succ i ih =>
    intro p m A e hm h1 h2
    obtain ⟨m, rfl⟩ : ∃ k, m = k + 1 := ⟨m - 1, by omega⟩
    obtain ⟨A1, q1, q2, q3, q4, q5, q6, q7, q8, q9⟩ := init_11 (D := D) (x1 := x1) (x2 := x2) (J := J) (k2 := fn_X9_passes_2 m) (by omega : p < 8) 9 0 hFuel A (by omega) (by decide)
    obtain ⟨A', r1, r2, r3⟩ := ih (p + 1) m A1 (by omega) (by omega) (fun p' w z1 z2 => by
      by_cases c : p' = p
      · subst c; exact q2 w (by omega) z2
      · rw [q3 _ (by omega)]; exact h1 p' w (by omega) z2) (fun p' z => by
      by_cases c : p' = p
      · subst c; exact ⟨q4, q5, q6, q7, q8⟩
      · rw [q9 24 p' (by decide) c, q9 25 p' (by decide) c, q9 31 p' (by decide) c, q9 32 p' (by decide) c, q9 33 p' (by decide) c]; exact h2 p' (by omega))
    refine ⟨A', ?_, r2, r3⟩
    conv => lhs; unfold fn_X9_passes_2
    rw [cd_f (by rw [n_lit, n_le (by omega) (by omega)]; omega)]
    exact q1.trans r1
theorem init_92 {D : HS} {x1 x2 : Int32} {A : AA} : ∀ (i k m : Nat) (J : Nat → Int64), k + i = 320 → i < m → (∀ j, j < k → J j = 0) → ∃ J', fn_X9_passes_92 m x1 x2 (nI k) (mk D A J) = fn_X9_passes_114 hFuel x1 x2 0 (mk D A J') ∧ ∀ j, j < 320 → J' j = 0 := by
  intro i
  induction i with
  | zero =>
    intro k m J e hm h
    obtain ⟨m, rfl⟩ : ∃ k, m = k + 1 := ⟨m - 1, by omega⟩
    have e : k = 320 := by omega
    subst e
    refine ⟨J, ?_, h⟩
    conv => lhs; unfold fn_X9_passes_92
    exact cd_t (by decide)
  | succ i ih =>
    intro k m J e hm h
    obtain ⟨m, rfl⟩ : ∃ k, m = k + 1 := ⟨m - 1, by omega⟩
    obtain ⟨J', q1, q2⟩ := ih (k + 1) m (up1 J k 0) (by omega) (by omega) (fun j hj => by
      by_cases c : j = k
      · subst c; rw [up1_eq]
      · rw [up1_ne c]; exact h j (by omega))
    refine ⟨J', ?_, q2⟩
    rw [← q1]
    conv => lhs; unfold fn_X9_passes_92
    rw [cd_f (by rw [n_lit, n_le (by omega) (by omega)]; omega), gd_t ((n_in (by omega)).mpr (by omega)), n_cl (by omega), mk_sJ]
    simp only [bn_s]
    rw [show nI k + 1 = nI (k + 1) by rw [n_lit, n_add]]
theorem passes_M {D : HS} (hd : DOK D) {K x2 : Int32} {last : Nat} (hx : x2.toInt = (last : Int) - 1) (ll : last ≤ 1200) {A : AA} {J : Nat → Int64} : ∃ A' J', fn_X9_passes K x2 (mk D A J) = some (mk D A' J') ∧ RP D K last A' J' := by
  obtain ⟨A1, q1, q2, q3⟩ := init_2 (D := D) (x1 := K) (x2 := x2) (J := J) 8 0 hFuel A rfl (by decide) (fun p' w h _ => absurd h (Nat.not_lt_zero _)) (fun p' h => absurd h (Nat.not_lt_zero _))
  obtain ⟨J1, r1, r2⟩ := init_92 (D := D) (x1 := K) (x2 := x2) (A := A1) 320 0 hFuel J rfl (by decide) (fun j h => absurd h (Nat.not_lt_zero _))
  have l28 : qP D < 9 := (n_of_in hd.2.1).2
  obtain ⟨A2, J2, s1, s2⟩ := days_M (K := K) hd hx ll last 0 hFuel A1 J1 (by omega) (by unfold hFuel; omega) ⟨q2, fun w hw => ⟨(q3 w hw).1, (q3 w hw).2.1⟩, fun q hq => ⟨(q3 q (by omega)).2.2.1, (q3 q (by omega)).2.2.2.1, (q3 q (by omega)).2.2.2.2⟩, fun z => absurd z (Nat.lt_irrefl _), fun q mo z1 z2 => by rw [r2 _ (by omega)]; unfold dsum; rw [Nat.zero_sub]; rfl, fun z => absurd z (Nat.lt_irrefl _)⟩
  exact ⟨A2, J2, q1.trans (r1.trans s1), s2⟩
