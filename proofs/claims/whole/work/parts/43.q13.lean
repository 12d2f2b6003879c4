/-! the reference's notes of a day, service, beginnings -/
theorem pfl_t {D : HS} {K : Int32} {q k : Nat} {g : Int32} {t : Int32 × Int32} (h : gI D 18 k ≤ K ∧ Int32.toNatClampNeg (gI D 15 k) = q ∧ gI D 16 k = 8) : pfl D K q g t k = (if gI D 19 k = 1 then 1 else 0, g) := if_pos h
theorem pfl_f {D : HS} {K : Int32} {q k : Nat} {g : Int32} {t : Int32 × Int32} (h : ¬ (gI D 18 k ≤ K ∧ Int32.toNatClampNeg (gI D 15 k) = q ∧ gI D 16 k = 8)) : pfl D K q g t k = t := if_neg h
theorem sa_s {D : HS} {K : Int32} {who d : Nat} : sa D K who (d + 1) = if svg D K d who then ((sa D K who d).1 + 1, 0) else (if gap D K d < (sa D K who d).2 + 1 then 0 else (sa D K who d).1, (sa D K who d).2 + 1) := rfl
def fdn (D : HS) (day k : Nat) : List Nat := (List.range k).filter (fun j => nFr D j == day)
theorem fdn_y {D : HS} {day k : Nat} (h : nFr D k = day) : fdn D day (k + 1) = fdn D day k ++ [k] := by
  unfold fdn
  rw [List.range_succ, List.filter_append]
  simp [h]
theorem fdn_n {D : HS} {day k : Nat} (h : nFr D k ≠ day) : fdn D day (k + 1) = fdn D day k := by
  unfold fdn
  rw [List.range_succ, List.filter_append]
  simp [h]
def NI (D : HS) (K : Int32) (day : Nat) (v : Nat → Nat → Int32) (t : Nat → Int32 × Int32) (k : Nat) (A0 A : AA) : Prop :=
  (∀ q w, q < 8 → w < 9 → A 23 (9 * q + w) = (fdn D day k).foldl (nst D K) v q w) ∧ (∀ q, q < 8 → (A 33 q, A 32 q) = (fdn D day k).foldl (pfl D K q (A0 31 q)) (t q)) ∧ ∀ c, c ≠ 23 → c ≠ 32 → c ≠ 33 → A c = A0 c
theorem notes_step {D : HS} (hd : DOK D) {K : Int32} {day : Nat} (hday : day < 2147483648) {v : Nat → Nat → Int32} {t : Nat → Int32 × Int32} {k m : Nat} {A0 A : AA} {J : Nat → Int64} (hk : k < qN D) (h : NI D K day v t k A0 A) :
    ∃ A', fn_X9_notesOf_2 (m + 1) (nI day) K (nI k) (mk D A J) = fn_X9_notesOf_2 m (nI day) K (nI (k + 1)) (mk D A' J) ∧ NI D K day v t (k + 1) A0 A' := by
  have e34 : gI D 0 34 = nI (qN D) := (n_of_in hd.2.2.1).1
  have l34 : qN D < 201 := (n_of_in hd.2.2.1).2
  obtain ⟨n1, n2, n3, n4⟩ := hd.2.2.2.2.2.2.2.2.1 k hk
  have lP : qP D < 9 := (n_of_in hd.2.1).2
  obtain ⟨q0, lq, eq⟩ := n_ex n1
  obtain ⟨w0, lw, ew⟩ := n_ex n2
  have e17 : gI D 17 k = nI (nFr D k) := (n_of_in n3).1
  have l17 : nFr D k < 1200 := (n_of_in n3).2
  have f1 : ¬ nI (qN D) ≤ nI k := by rw [n_le (by omega) (by omega)]; omega
  have f2 : vp_in (nI k) 200 := (n_in (by omega)).mpr (by omega)
  have f3 : (nI k).toNatClampNeg = k := n_cl (by omega)
  have f4 : nI k + 1 = nI (k + 1) := by rw [n_lit, n_add]
  obtain ⟨i1, i2, i3⟩ := h
  by_cases c1 : nFr D k = day
  · have g1 : nI (nFr D k) = nI day := by rw [c1]
    by_cases c2 : gI D 18 k ≤ K
    · have tt : 9 * nI q0 + nI w0 = nI (9 * q0 + w0) := by rw [n_lit, n_mul, n_add]
      have f5 : vp_in (nI (9 * q0 + w0)) 72 := (n_in (by omega)).mpr (by omega)
      have f6 : (nI (9 * q0 + w0)).toNatClampNeg = 9 * q0 + w0 := n_cl (by omega)
      have f7 : vp_in (nI q0) 8 := (n_in (by omega)).mpr (by omega)
      have f8 : (nI q0).toNatClampNeg = q0 := n_cl (by omega)
      have hnst : ∀ u, nst D K u k = up2 u q0 w0 (gI D 19 k) := fun u => by unfold nst; rw [if_pos c2, eq, ew, f8, n_cl (by omega)]
      by_cases c3 : w0 = 8
      · subst c3
        have g3 : nI 8 = 8 := rfl
        refine ⟨up2 (up2 (up2 A 23 (9 * q0 + 8) (gI D 19 k)) 33 q0 (if gI D 19 k = 1 then 1 else 0)) 32 q0 (A 31 q0), ?_, ?_, ?_, ?_⟩
        · conv => lhs; unfold fn_X9_notesOf_2
          unfold fn_X9_notesOf_99 fn_X9_notesOf_122
          simp only [mk_g0, e34, f1, f2, f3, f4, mk_g15, mk_g16, mk_g17, mk_g18, mk_g19, e17, eq, ew, g1, c2, show 9 * nI q0 + 8 = nI (9 * q0 + 8) from tt, f5, f6, f7, f8, g3, cd_F, cd_T, gd_T, bn_s, mk_s23, mk_s33, mk_s32, mk_a31, up2_ne (show 31 ≠ 33 by decide), up2_ne (show 31 ≠ 23 by decide), or_true, true_or]
          by_cases c4 : gI D 19 k = 1
          · rw [cd_t c4, if_pos c4]
          · rw [cd_f c4, if_neg c4]
        · intro q w hq hw
          rw [fdn_y c1, List.foldl_append]
          show _ = nst D K _ k q w
          rw [hnst, up2_ne (by decide), up2_ne (by decide)]
          unfold up2
          by_cases e : q = q0 ∧ w = 8
          · rw [if_pos e, if_pos (by omega)]
          · rw [if_neg e, if_neg (by omega)]; exact i1 q w hq hw
        · intro q hq
          rw [fdn_y c1, List.foldl_append]
          show _ = pfl D K q (A0 31 q) _ k
          by_cases e : q = q0
          · subst e
            rw [pfl_t ⟨c2, by rw [eq, f8], ew⟩, up2_eq, up2_ne (by decide), up2_eq, i3 31 (by decide) (by decide) (by decide)]
          · rw [pfl_f (by rw [eq, f8]; exact fun z => e z.2.1.symm), up2_nk e, up2_nk e, up2_nk e, up2_nk e, up2_ne (show 33 ≠ 23 by decide), up2_ne (show 32 ≠ 23 by decide)]
            exact i2 q hq
        · intro c h1 h2 h3
          rw [up2_ne h2, up2_ne h3, up2_ne h1]; exact i3 c h1 h2 h3
      · have g3 : ¬ nI w0 = 8 := by rw [n_lit, n_eq (by omega) (by omega)]; exact c3
        refine ⟨up2 A 23 (9 * q0 + w0) (gI D 19 k), ?_, ?_, ?_, ?_⟩
        · conv => lhs; unfold fn_X9_notesOf_2
          unfold fn_X9_notesOf_122
          simp only [mk_g0, e34, f1, f2, f3, f4, mk_g15, mk_g16, mk_g17, mk_g18, mk_g19, e17, eq, ew, g1, c2, tt, f5, f6, g3, cd_F, cd_T, gd_T, bn_s, mk_s23]
        · intro q w hq hw
          rw [fdn_y c1, List.foldl_append]
          show _ = nst D K _ k q w
          rw [hnst]
          unfold up2
          by_cases e : q = q0 ∧ w = w0
          · rw [if_pos e, if_pos (by rw [e.1, e.2]; exact ⟨rfl, rfl⟩)]
          · rw [if_neg e, if_neg (by omega)]; exact i1 q w hq hw
        · intro q hq
          rw [fdn_y c1, List.foldl_append]
          show _ = pfl D K q (A0 31 q) _ k
          unfold pfl
          rw [ew, if_neg (fun z => g3 z.2.2), up2_ne (by decide), up2_ne (by decide)]
          exact i2 q hq
        · intro c h1 h2 h3
          rw [up2_ne h1]; exact i3 c h1 h2 h3
    · refine ⟨A, ?_, ?_, ?_, i3⟩
      · conv => lhs; unfold fn_X9_notesOf_2
        unfold fn_X9_notesOf_122
        simp only [mk_g0, e34, f1, f2, f3, f4, mk_g17, mk_g18, e17, g1, c2, cd_F, cd_T, gd_T, bn_s]
      · intro q w hq hw
        rw [fdn_y c1, List.foldl_append]
        show _ = nst D K _ k q w
        unfold nst
        rw [if_neg c2]; exact i1 q w hq hw
      · intro q hq
        rw [fdn_y c1, List.foldl_append]
        show _ = pfl D K q (A0 31 q) _ k
        unfold pfl
        rw [if_neg (fun z => c2 z.1)]; exact i2 q hq
  · refine ⟨A, ?_, ?_⟩
    · have g1 : ¬ nI (nFr D k) = nI day := by rw [n_eq (by omega) hday]; exact c1
      conv => lhs; unfold fn_X9_notesOf_2
      unfold fn_X9_notesOf_122
      simp only [mk_g0, e34, f1, f2, f3, f4, mk_g17, e17, g1, cd_F, gd_T, bn_s]
    · unfold NI
      rw [fdn_n c1]
      exact ⟨i1, i2, i3⟩
theorem notes_2 {D : HS} (hd : DOK D) {K : Int32} {day : Nat} (hday : day < 2147483648) {v : Nat → Nat → Int32} {t : Nat → Int32 × Int32} {A0 : AA} {J : Nat → Int64} : ∀ (i k m : Nat) (A : AA), k + i = qN D → i < m → NI D K day v t k A0 A → ∃ A', fn_X9_notesOf_2 m (nI day) K (nI k) (mk D A J) = some (mk D A' J) ∧ NI D K day v t (qN D) A0 A' := by
  intro i
  induction i with
  | zero =>
    intro k m A e hm h
    obtain ⟨m, rfl⟩ : ∃ k, m = k + 1 := ⟨m - 1, by omega⟩
    have e : k = qN D := by omega
    subst e
    refine ⟨A, ?_, h⟩
    conv => lhs; unfold fn_X9_notesOf_2
    rw [mk_g0, (n_of_in hd.2.2.1).1]
    exact cd_t (Int32.le_refl _)
  | succ i ih =>
    intro k m A e hm h
    obtain ⟨m, rfl⟩ : ∃ k, m = k + 1 := ⟨m - 1, by omega⟩
    obtain ⟨A1, q1, q2⟩ := notes_step (m := m) (J := J) hd hday (by omega : k < qN D) h
    rw [q1]
    exact ih (k + 1) m A1 (by omega) (by omega) q2
theorem notesOf_M {D : HS} (hd : DOK D) {K : Int32} {day : Nat} (hday : day < 2147483648) {v : Nat → Nat → Int32} {A : AA} {J : Nat → Int64} (hv : ∀ q w, q < 8 → w < 9 → A 23 (9 * q + w) = v q w) : ∃ A', fn_X9_notesOf (nI day) K (mk D A J) = some (mk D A' J) ∧ (∀ q w, q < 8 → w < 9 → A' 23 (9 * q + w) = (dn D day).foldl (nst D K) v q w) ∧ (∀ q, q < 8 → (A' 33 q, A' 32 q) = (dn D day).foldl (pfl D K q (A 31 q)) (A 33 q, A 32 q)) ∧ ∀ c, c ≠ 23 → c ≠ 32 → c ≠ 33 → A' c = A c :=
  notes_2 (v := v) (t := fun q => (A 33 q, A 32 q)) hd hday (qN D) 0 hFuel A (by omega) (by have : qN D < 201 := (n_of_in hd.2.2.1).2; unfold hFuel; omega) ⟨hv, fun q _ => rfl, fun c _ _ _ => rfl⟩
/-! service -/
def bI (b : Bool) : Int32 := if b then 1 else 0
def anyS (D : HS) (A : AA) (who q : Nat) : Bool := (List.range q).any (fun q' => per D q' == who && A 23 (9 * q' + 6) == 1)
theorem anyS_s {D : HS} {A : AA} {who q : Nat} : anyS D A who (q + 1) = (anyS D A who q || (per D q == who && A 23 (9 * q + 6) == 1)) := by
  unfold anyS
  rw [List.range_succ, List.any_append]
  simp
theorem serves_20 {D : HS} (hd : DOK D) {A : AA} {J : Nat → Int64} {who s a g : Nat} {k9 : Int32 → Int32 → HS → Option HS} (lw : who < 8) (hs : A 24 who = nI s) (ha : A 25 who = nI a) (ls : s < 2000000) (l2 : a < 2000000) (lg : g < 2000000) : ∀ (i q m : Nat), q + i = qP D → i < m →
    fn_X9_serves_20 k9 m (nI g) (nI who) (bI (anyS D A who q)) (nI q) (mk D A J) = k9 (nI g) (nI (who + 1)) (mk D (up2 (up2 A 25 who (nI (if anyS D A who (qP D) then 0 else a + 1))) 24 who (nI (if anyS D A who (qP D) then s + 1 else if g < a + 1 then 0 else s))) J) := by
  have e28 : gI D 0 28 = nI (qP D) := (n_of_in hd.2.1).1
  have l28 : qP D < 9 := (n_of_in hd.2.1).2
  have f5 : vp_in (nI who) 8 := (n_in (by omega)).mpr lw
  have f6 : (nI who).toNatClampNeg = who := n_cl (by omega)
  have f7 : nI who + 1 = nI (who + 1) := by rw [n_lit, n_add]
  intro i
  induction i with
  | zero =>
    intro q m e hm
    obtain ⟨m, rfl⟩ : ∃ k, m = k + 1 := ⟨m - 1, by omega⟩
    have e : q = qP D := by omega
    subst e
    conv => lhs; unfold fn_X9_serves_20
    rw [mk_g0, e28, cd_t (Int32.le_refl _)]
    unfold fn_X9_serves_94 fn_X9_serves_135
    have t1 : nI a + 1 = nI (a + 1) := by rw [n_lit, n_add]
    have t2 : nI s + 1 = nI (s + 1) := by rw [n_lit, n_add]
    simp only [f5, f6, f7, gd_T, bn_s, mk_s25, mk_s24, mk_a25, mk_a24, up2_eq, hs, ha, t1, t2, up2_ne (show 24 ≠ 25 by decide)]
    cases hb : anyS D A who (qP D)
    · rw [show bI false = 0 from rfl, cd_t rfl, cd_t rfl]
      by_cases c : g < a + 1
      · rw [cd_f (by rw [n_le (by omega) (by omega)]; omega)]
        simp [c]; rfl
      · rw [cd_t (by rw [n_le (by omega) (by omega)]; omega)]
        simp [c]
    · rw [show bI true = 1 from rfl, cd_f (by decide), cd_f (by decide)]
      simp; rfl
  | succ i ih =>
    intro q m e hm
    obtain ⟨m, rfl⟩ : ∃ k, m = k + 1 := ⟨m - 1, by omega⟩
    rw [← ih (q + 1) m (by omega) (by omega), anyS_s]
    conv => lhs; unfold fn_X9_serves_20
    have f1 : ¬ nI (qP D) ≤ nI q := by rw [n_le (by omega) (by omega)]; omega
    have f2 : vp_in (nI q) 8 := (n_in (by omega)).mpr (by omega)
    have f3 : (nI q).toNatClampNeg = q := n_cl (by omega)
    have f4 : nI q + 1 = nI (q + 1) := by rw [n_lit, n_add]
    have tt : 9 * nI q + 6 = nI (9 * q + 6) := by rw [n_lit, n_mul, n_lit, n_add]
    have f8 : vp_in (nI (9 * q + 6)) 72 := (n_in (by omega)).mpr (by omega)
    have f9 : (nI (9 * q + 6)).toNatClampNeg = 9 * q + 6 := n_cl (by omega)
    have e14 : gI D 14 q = nI (per D q) := (n_of_in (hd.2.2.2.2.2.2.2.2.2 q (by omega))).1
    have l14 : per D q < 8 := (n_of_in (hd.2.2.2.2.2.2.2.2.2 q (by omega))).2
    unfold fn_X9_serves_65 fn_X9_serves_61 fn_X9_serves_66
    simp only [mk_g0, e28, f1, f2, f3, f4, tt, f8, f9, mk_g14, e14, mk_a23, cd_F, gd_T, bn_s]
    cases anyS D A who q
    · rw [show bI false = 0 from rfl, cd_t rfl]
      by_cases c : per D q = who
      · rw [cd_t (by rw [c])]
        by_cases c2 : A 23 (9 * q + 6) = 1
        · rw [cd_t c2]; simp [c, c2, bI]
        · rw [cd_f c2]; simp [c, c2, bI]
      · rw [cd_f (by rw [n_eq (by omega) (by omega)]; exact c)]; simp [c, bI]
    · rw [show bI true = 1 from rfl, cd_f (by decide)]; simp [bI]
theorem serves_9 {D : HS} (hd : DOK D) {J : Nat → Int64} {g : Nat} {s a : Nat → Nat} {hb : Nat → Bool} (ls : ∀ w, s w < 2000000 ∧ a w < 2000000) (lg : g < 2000000) : ∀ (i who m : Nat) (A : AA), who + i = 8 → i < m → (∀ w, who ≤ w → w < 8 → A 24 w = nI (s w) ∧ A 25 w = nI (a w)) → (∀ w, w < 8 → anyS D A w (qP D) = hb w) →
    ∃ A', fn_X9_serves_9 m (nI g) (nI who) (mk D A J) = some (mk D A' J) ∧ (∀ w, who ≤ w → w < 8 → A' 24 w = nI (if hb w then s w + 1 else if g < a w + 1 then 0 else s w) ∧ A' 25 w = nI (if hb w then 0 else a w + 1)) ∧ (∀ w, w < who → A' 24 w = A 24 w ∧ A' 25 w = A 25 w) ∧ ∀ c, c ≠ 24 → c ≠ 25 → A' c = A c := by
  intro i
  induction i with
  | zero =>
    intro who m A e hm h hh
    obtain ⟨m, rfl⟩ : ∃ k, m = k + 1 := ⟨m - 1, by omega⟩
    have e : who = 8 := by omega
    subst e
    refine ⟨A, ?_, fun w h1 h2 => by omega, fun w _ => ⟨rfl, rfl⟩, fun c _ _ => rfl⟩
    conv => lhs; unfold fn_X9_serves_9
    exact cd_t (by decide)
  | succ i ih =>
    intro who m A e hm h hh
    obtain ⟨m, rfl⟩ : ∃ k, m = k + 1 := ⟨m - 1, by omega⟩
    have lw : who < 8 := by omega
    obtain ⟨h1, h2⟩ := h who (Nat.le_refl _) lw
    obtain ⟨A', q1, q2, q3, q4⟩ := ih (who + 1) m (up2 (up2 A 25 who (nI (if hb who then 0 else a who + 1))) 24 who (nI (if hb who then s who + 1 else if g < a who + 1 then 0 else s who))) (by omega) (by omega) (fun w l1 l2 => by
      rw [up2_nk (by omega), up2_nk (by omega), up2_nk (by omega), up2_nk (by omega)]; exact h w (by omega) l2) (fun w hw => by
      rw [← hh w hw]; unfold anyS; rw [up2_ne (by decide), up2_ne (by decide)])
    refine ⟨A', ?_, fun w l1 l2 => ?_, fun w l1 => ?_, fun c c1 c2 => ?_⟩
    · conv => lhs; unfold fn_X9_serves_9
      rw [cd_f (by rw [n_lit, n_le (by omega) (by omega)]; omega)]
      have := serves_20 (J := J) (k9 := fn_X9_serves_9 m) hd lw h1 h2 (ls who).1 (ls who).2 lg (qP D) 0 hFuel (by omega) (by have : qP D < 9 := (n_of_in hd.2.1).2; unfold hFuel; omega)
      rw [hh who lw] at this
      exact this.trans q1
    · by_cases ew : w = who
      · subst ew
        obtain ⟨r1, r2⟩ := q3 w (by omega)
        rw [r1, r2, up2_eq, up2_ne (by decide), up2_eq]
        exact ⟨rfl, rfl⟩
      · exact q2 w (by omega) l2
    · obtain ⟨r1, r2⟩ := q3 w (by omega)
      rw [r1, r2, up2_nk (by omega), up2_nk (by omega), up2_nk (by omega), up2_nk (by omega)]
      exact ⟨rfl, rfl⟩
    · rw [q4 c c1 c2, up2_ne c1, up2_ne c2]
theorem serves_M {D : HS} (hd : DOK D) {K : Int32} {d : Nat} {A : AA} {J : Nat → Int64} (ld : d < 1200) (hA : WA (wl D K d) A) (hv : ∀ q w, q < 8 → w < 9 → A 23 (9 * q + w) = vv D K d q w) (hs : ∀ w, w < 8 → A 24 w = nI (sa D K w d).1 ∧ A 25 w = nI (sa D K w d).2) : ∃ A', fn_X9_serves (mk D A J) = some (mk D A' J) ∧ (∀ w, w < 8 → A' 24 w = nI (sa D K w (d + 1)).1 ∧ A' 25 w = nI (sa D K w (d + 1)).2) ∧ ∀ c, c ≠ 24 → c ≠ 25 → A' c = A c := by
  have hW := wl_WOK hd K d
  obtain ⟨g, lg, eg⟩ := dNo_g hW
  have l28 : qP D < 9 := (n_of_in hd.2.1).2
  obtain ⟨A', q1, q2, _, q4⟩ := serves_9 (J := J) (g := g) (s := fun w => (sa D K w d).1) (a := fun w => (sa D K w d).2) (hb := fun w => svg D K d w) hd (fun w => by have := sa_b (D := D) (K := K) (who := w) d; exact ⟨by show (sa D K w d).1 < 2000000; omega, by show (sa D K w d).2 < 2000000; omega⟩) (by omega) 8 0 hFuel A rfl (by decide) (fun w _ hw => hs w hw) (fun w hw => by
    unfold anyS svg
    rw [Bool.eq_iff_iff, List.any_eq_true, List.any_eq_true]
    constructor
    · rintro ⟨q, hq, h⟩
      rw [hv q 6 (by have := List.mem_range.mp hq; omega) (by decide)] at h
      exact ⟨q, hq, h⟩
    · rintro ⟨q, hq, h⟩
      rw [← hv q 6 (by have := List.mem_range.mp hq; omega) (by decide)] at h
      exact ⟨q, hq, h⟩)
  refine ⟨A', ?_, fun w hw => ?_, q4⟩
  · unfold fn_X9_serves
    rw [show (4 : Int32) = nI 4 from rfl, numberOf_M hW hA (by decide), bn2_s, show 26 * 4 = 104 from rfl, eg]
    exact q1
  · obtain ⟨r1, r2⟩ := q2 w (by omega) hw
    have eg2 : gap D K d = g := by unfold gap; rw [eg, n_cl (by omega)]
    rw [r1, r2, sa_s, eg2]
    cases svg D K d w
    · exact ⟨rfl, rfl⟩
    · exact ⟨rfl, rfl⟩
/-! beginnings -/
theorem beg_12 {D : HS} (hd : DOK D) {d : Nat} {S : HS} (hS : ∃ A J, S = mk D A J) (ld : d < 2147483648) : ∀ (i a m : Nat) (x : Int32), a + i = qA D → i < m → (x = 0 ∨ x = 1) → ∃ r, fn_X9_isBeginning_12 m (nI d) x (nI a) S = some (r, S) ∧ (r = 1 ∨ (r = 0 ∧ x = 0 ∧ ∀ b, a ≤ b → b < qA D → qF D b ≠ d)) := by
  obtain ⟨A, J, rfl⟩ := hS
  have e7 : gI D 0 7 = nI (qA D) := (n_of_in hd.1).1
  have l7 : qA D < 13 := (n_of_in hd.1).2
  intro i
  induction i with
  | zero =>
    intro a m x e hm hx
    obtain ⟨m, rfl⟩ : ∃ k, m = k + 1 := ⟨m - 1, by omega⟩
    have e : a = qA D := by omega
    subst e
    refine ⟨x, ?_, ?_⟩
    · conv => lhs; unfold fn_X9_isBeginning_12
      rw [mk_g0, e7, cd_t (Int32.le_refl _), gd_t hx]
    · rcases hx with rfl | rfl
      · exact Or.inr ⟨rfl, rfl, fun b h1 h2 => by omega⟩
      · exact Or.inl rfl
  | succ i ih =>
    intro a m x e hm hx
    obtain ⟨m, rfl⟩ : ∃ k, m = k + 1 := ⟨m - 1, by omega⟩
    have f1 : ¬ nI (qA D) ≤ nI a := by rw [n_le (by omega) (by omega)]; omega
    have f2 : vp_in (nI a) 12 := (n_in (by omega)).mpr (by omega)
    have f3 : (nI a).toNatClampNeg = a := n_cl (by omega)
    have f4 : nI a + 1 = nI (a + 1) := by rw [n_lit, n_add]
    have f11 : gI D 3 a = nI (qF D a) := (n_of_in (hd.2.2.2.1 a (by omega))).1
    have l11 : qF D a < 1200 := (n_of_in (hd.2.2.2.1 a (by omega))).2
    have hu : fn_X9_isBeginning_12 (m + 1) (nI d) x (nI a) (mk D A J) = cd (x = 0) (cd (nI (qF D a) = nI d) (fn_X9_isBeginning_12 m (nI d) 1 (nI (a + 1)) (mk D A J)) (fn_X9_isBeginning_12 m (nI d) 0 (nI (a + 1)) (mk D A J))) (fn_X9_isBeginning_12 m (nI d) 1 (nI (a + 1)) (mk D A J)) := by
      conv => lhs; unfold fn_X9_isBeginning_12
      unfold fn_X9_isBeginning_34 fn_X9_isBeginning_39
      simp only [mk_g0, e7, f1, f2, f3, f4, mk_g3, f11, cd_F, gd_T, bn_s]
    rw [hu]
    obtain ⟨r, q1, q2⟩ := ih (a + 1) m 1 (by omega) (by omega) (Or.inr rfl)
    have hr : r = 1 := by
      rcases q2 with h | h
      · exact h
      · exact absurd h.2.1 (by decide)
    rcases hx with rfl | rfl
    · rw [cd_t rfl]
      by_cases c : qF D a = d
      · rw [cd_t (by rw [c]), q1]
        exact ⟨r, rfl, Or.inl hr⟩
      · rw [cd_f (by rw [n_eq (by omega) ld]; exact c)]
        obtain ⟨r', u1, u2⟩ := ih (a + 1) m 0 (by omega) (by omega) (Or.inl rfl)
        refine ⟨r', u1, ?_⟩
        rcases u2 with u2 | ⟨u2, _, u3⟩
        · exact Or.inl u2
        · refine Or.inr ⟨u2, rfl, fun b h1 h2 => ?_⟩
          by_cases eb : b = a
          · rw [eb]; exact c
          · exact u3 b (by omega) h2
    · rw [cd_f (by decide), q1]
      exact ⟨r, rfl, Or.inl hr⟩
theorem isBeg_M {D : HS} (hd : DOK D) {d : Nat} {A : AA} {J : Nat → Int64} (ld : d < 2147483648) : ∃ r, fn_X9_isBeginning (nI d) (mk D A J) = some (r, mk D A J) ∧ (r = 1 ∨ (r = 0 ∧ d ≠ 0 ∧ ∀ b, b < qA D → qF D b ≠ d)) := by
  have l7 : qA D < 13 := (n_of_in hd.1).2
  unfold fn_X9_isBeginning fn_X9_isBeginning_9
  by_cases c : d = 0
  · rw [cd_t (by rw [c]; rfl)]
    obtain ⟨r, q1, q2⟩ := beg_12 (S := mk D A J) hd ⟨A, J, rfl⟩ ld (qA D) 0 hFuel 1 (by omega) (by unfold hFuel; omega) (Or.inr rfl)
    refine ⟨r, q1, ?_⟩
    rcases q2 with h | h
    · exact Or.inl h
    · exact absurd h.2.1 (by decide)
  · rw [cd_f (by rw [n_lit, n_eq ld (by decide)]; exact c)]
    obtain ⟨r, q1, q2⟩ := beg_12 (S := mk D A J) hd ⟨A, J, rfl⟩ ld (qA D) 0 hFuel 0 (by omega) (by unfold hFuel; omega) (Or.inl rfl)
    refine ⟨r, q1, ?_⟩
    rcases q2 with h | ⟨h1, _, h2⟩
    · exact Or.inl h
    · exact Or.inr ⟨h1, c, fun b hb => h2 b (by omega) hb⟩
theorem fold_cg {D : HS} {K : Int32} {d d' k : Nat} : ∀ (qs : List (Nat × Nat)) (w : Option (Nat × Nat)), (∀ q ∈ qs, hit D d K k q ↔ hit D d' K k q) → qs.foldl (wMax D d K k) w = qs.foldl (wMax D d' K k) w ∧ qs.foldl (wLast D d K k) w = qs.foldl (wLast D d' K k) w := by
  intro qs
  induction qs with
  | nil => intro w _; exact ⟨rfl, rfl⟩
  | cons r rs ih =>
    intro w h
    have h0 := h r (by simp)
    have h1 := fun w => ih w (fun q hq => h q (by simp [hq]))
    rw [List.foldl_cons, List.foldl_cons, List.foldl_cons, List.foldl_cons]
    by_cases c : hit D d K k r
    · have c' := h0.mp c
      rw [wLast_t c, wLast_t c']
      refine ⟨?_, (h1 _).2⟩
      cases w with
      | none => rw [wMax_n c, wMax_n c']; exact (h1 _).1
      | some b => rw [wMax_s c, wMax_s c']; exact (h1 _).1
    · have c' := fun z => c (h0.mpr z)
      rw [wMax_f c, wMax_f c', wLast_f c, wLast_f c']
      exact h1 w
theorem wl_same {D : HS} (hd : DOK D) {K : Int32} {d d' : Nat} (h : d ≤ d') (hn : ∀ b, b < qA D → gI D 2 b ≤ K → d < qF D b → qF D b ≤ d' → False) : wl D K d' = wl D K d := by
  funext k
  have : wins D d' K k = wins D d K k := by
    refine (fold_cg (alls D) none (fun q hq => ?_)).1
    have hq := (mem_alls hd hq).1
    constructor
    · rintro ⟨h1, h2, h3⟩
      refine ⟨h1, h2, ?_⟩
      rcases Nat.lt_or_ge d (qF D q.1) with c | c
      · exact absurd h3 (fun z => hn q.1 hq h2 c z)
      · exact c
    · rintro ⟨h1, h2, h3⟩
      exact ⟨h1, h2, by omega⟩
  unfold wl
  rw [this]
