/-! words -/
def woff (w : Nat) : Nat := [0, 5, 11, 17, 22, 26, 31, 35, 40].getD w 40
theorem w_ch : ∀ w, w < 8 → wlen w ≤ 5 ∧ 3 ≤ wlen w ∧ woff (w + 1) = woff w + wlen w + 1 ∧ woff (w + 1) ≤ 40 ∧ hCh 8 (woff w + wlen w) = 32 ∧ ∀ i, i < wlen w → hCh 8 (woff w + i) = hCh w i ∧ hCh w i ≠ 32 := by decide
theorem word_179 {k71 : Int32 → Int32 → HS → Option HS} {w : Nat} (hw : w < 8) {S : HS} : ∀ (i j m : Nat), j + i = wlen w → i < m → fn_X9_word_179 k71 m (nI w) (nI (woff w + j)) S = k71 (nI (w + 1)) (nI (woff (w + 1))) S := by
  obtain ⟨h1, h2, h3, h4, h5, h6⟩ := w_ch w hw
  intro i
  induction i with
  | zero =>
    intro j m e hm
    obtain ⟨m, rfl⟩ : ∃ k, m = k + 1 := ⟨m - 1, by omega⟩
    have e : j = wlen w := by omega
    subst e
    conv => lhs; unfold fn_X9_word_179
    rw [gd_t ((n_in (by omega)).mpr (by omega)), n_cl (by omega), h5, cd_t rfl, bn_s, bn_s, show nI (woff w + wlen w) + 1 = nI (woff (w + 1)) by rw [n_lit, n_add, h3], show nI w + 1 = nI (w + 1) by rw [n_lit, n_add]]
  | succ i ih =>
    intro j m e hm
    obtain ⟨m, rfl⟩ : ∃ k, m = k + 1 := ⟨m - 1, by omega⟩
    obtain ⟨g1, g2⟩ := h6 j (by omega)
    rw [← ih (j + 1) m (by omega) (by omega)]
    conv => lhs; unfold fn_X9_word_179
    rw [gd_t ((n_in (by omega)).mpr (by omega)), n_cl (by omega), g1, cd_f g2, bn_s, show nI (woff w + j) + 1 = nI (woff w + (j + 1)) by rw [n_lit, n_add]; rfl]
theorem word_83 {b : Nat → Nat} {N : Nat} {k71 : Int32 → Int32 → HS → Option HS} {w st en : Nat} (hw : w < 8) {S S' : HS} (hL : ML S b N) (h19 : gI S 0 19 = nI st) (h18 : gI S 0 18 = nI en) (hse : st ≤ en) (heN : en ≤ N) (hy : wm b w st en → S' = sI (sI S 0 20 0) 0 21 (nI w)) (hn : ¬ wm b w st en → S' = S) : ∀ (i j m : Nat), j + i = wlen w → i < m → (∀ q, q < j → nI (b (st + q)) = hCh w q) → st + j ≤ en → fn_X9_word_83 k71 m (nI w) (nI (woff w)) (nI j) S = k71 (nI (w + 1)) (nI (woff (w + 1))) S' := by
  obtain ⟨h1, h2, h3, h4, h5, h6⟩ := w_ch w hw
  have hN := hL.2.1
  have hend : ∀ j, j ≤ wlen w → (j = wlen w ∧ st + j = en → wm b w st en) → (wm b w st en → j = wlen w ∧ st + j = en) → fn_X9_word_141 k71 (nI w) (nI (woff w)) (nI j) S = k71 (nI (w + 1)) (nI (woff (w + 1))) S' := by
    intro j hj hq1 hq2
    unfold fn_X9_word_141
    rw [n_add, gd_t ((n_in (by omega)).mpr (by omega)), n_cl (by omega), h19, h18, n_add]
    have hk := fun S => word_179 (k71 := k71) (S := S) hw (wlen w) 0 hFuel (by omega) (by unfold hFuel; omega)
    simp only [Nat.add_zero] at hk
    by_cases c : j = wlen w
    · rw [c, h5, cd_t rfl]
      by_cases c2 : st + wlen w = en
      · have hm := hq1 ⟨c, by rw [c]; exact c2⟩
        rw [cd_t (by rw [c2]), bn_s, bn_s, hk, hy hm]
      · have hm : ¬ wm b w st en := fun z => c2 (by have := (hq2 z).2; rw [c] at this; exact this)
        rw [cd_f (by rw [n_eq (by omega) (by omega)]; exact c2), hk, hn hm]
    · have g := (h6 j (by omega))
      have hm : ¬ wm b w st en := fun z => c (hq2 z).1
      rw [g.1, cd_f g.2, hk, hn hm]
  intro i
  induction i with
  | zero =>
    intro j m e hm hmt hle
    obtain ⟨m, rfl⟩ : ∃ k, m = k + 1 := ⟨m - 1, by omega⟩
    have e : j = wlen w := by omega
    conv => lhs; unfold fn_X9_word_83
    rw [n_add, gd_t ((n_in (by omega)).mpr (by omega)), n_cl (by omega), e, h5, cd_t rfl, ← e]
    exact hend j (by omega) (fun z => ⟨by omega, fun q hq => hmt q (by omega)⟩) (fun z => ⟨e, by have := z.1; omega⟩)
  | succ i ih =>
    intro j m e hm hmt hle
    obtain ⟨m, rfl⟩ : ∃ k, m = k + 1 := ⟨m - 1, by omega⟩
    obtain ⟨g1, g2⟩ := h6 j (by omega)
    conv => lhs; unfold fn_X9_word_83
    rw [n_add, gd_t ((n_in (by omega)).mpr (by omega)), n_cl (by omega), g1, cd_f g2, h18, h19, n_add]
    by_cases c : en ≤ st + j
    · rw [cd_t (by rw [n_le (by omega) (by omega)]; exact c)]
      exact hend j (by omega) (fun z => absurd z.1 (by omega)) (fun z => by have := z.1; omega)
    · rw [cd_f (by rw [n_le (by omega) (by omega)]; exact c), gd_t ((n_in (by omega)).mpr (by omega)), gd_t ((n_in (by omega)).mpr (by omega)), n_cl (by omega), (hL.2.2 (st + j) (by omega)).1]
      by_cases c2 : nI (b (st + j)) = hCh w j
      · rw [cd_t c2, bn_s, show nI j + 1 = nI (j + 1) by rw [n_lit, n_add]]
        exact ih (j + 1) m (by omega) (by omega) (fun q hq => by
          by_cases eq : q = j
          · rw [eq]; exact c2
          · exact hmt q (by omega)) (by omega)
      · rw [cd_f c2]
        exact hend j (by omega) (fun z => absurd z.1 (by omega)) (fun z => absurd (z.2 j (by omega)) c2)
/-- a word found, or none -/
def WF (b : Nat → Nat) (st en k : Nat) (M M' : HS) : Prop := M2 M M' ∧ (∀ j, j ≠ 20 → j ≠ 21 → gI M' 0 j = gI M 0 j) ∧ ((∃ w, w < k ∧ wm b w st en ∧ gI M' 0 20 = 0 ∧ gI M' 0 21 = nI w) ∨ ((∀ w, w < k → ¬ wm b w st en) ∧ gI M' 0 20 = gI M 0 20))
theorem wm_one {b : Nat → Nat} {w v st en : Nat} (hw : w < 8) (hv : v < 8) (h1 : wm b w st en) (h2 : wm b v st en) : w = v := by
  have key : ∀ w v : Fin 8, w ≠ v → wlen w.val = wlen v.val → ∃ i : Fin 6, i.val < wlen w.val ∧ hCh w.val i.val ≠ hCh v.val i.val := by decide
  rcases Nat.decEq w v with c | c
  · obtain ⟨i, hi, hne⟩ := key ⟨w, hw⟩ ⟨v, hv⟩ (fun z => c (Fin.val_eq_of_eq z)) (by have := h1.1; have := h2.1; show wlen w = wlen v; omega)
    have e1 := h1.2 i.val hi
    have e2 := h2.2 i.val (by have := h1.1; have := h2.1; have hi : i.val < wlen w := hi; omega)
    exact absurd (e1.symm.trans e2) hne
  · exact c
theorem word_71 {b : Nat → Nat} {N st en : Nat} {M : HS} (hL : ML M b N) (h19 : gI M 0 19 = nI st) (h18 : gI M 0 18 = nI en) (hse : st ≤ en) (heN : en ≤ N) : ∀ (i k m : Nat) (T : HS), k + i = 8 → i < m → WF b st en k M T → ∃ M', fn_X9_word_71 m (nI k) (nI (woff k)) T = some M' ∧ WF b st en 8 M M' := by
  intro i
  induction i with
  | zero =>
    intro k m T e hm h
    obtain ⟨m, rfl⟩ : ∃ k, m = k + 1 := ⟨m - 1, by omega⟩
    have e : k = 8 := by omega
    subst e
    refine ⟨T, ?_, h⟩
    conv => lhs; unfold fn_X9_word_71
    exact cd_t (by decide)
  | succ i ih =>
    intro k m T e hm h
    obtain ⟨m, rfl⟩ : ∃ k, m = k + 1 := ⟨m - 1, by omega⟩
    obtain ⟨h1, h2, h3, h4, h5, h6⟩ := w_ch k (by omega)
    obtain ⟨f1, f2, f3⟩ := h
    have hT : ML T b N := hL.keep f1
    have g19 : gI T 0 19 = nI st := (f2 19 (by decide) (by decide)).trans h19
    have g18 : gI T 0 18 = nI en := (f2 18 (by decide) (by decide)).trans h18
    have hstep : ∀ T', WF b st en (k + 1) M T' → (wm b k st en → T' = sI (sI T 0 20 0) 0 21 (nI k)) → (¬ wm b k st en → T' = T) → ∃ M', fn_X9_word_71 (m + 1) (nI k) (nI (woff k)) T = some M' ∧ WF b st en 8 M M' := by
      intro T' q1 q2 q3
      obtain ⟨M', r1, r2⟩ := ih (k + 1) m T' (by omega) (by omega) q1
      refine ⟨M', ?_, r2⟩
      conv => lhs; unfold fn_X9_word_71
      rw [cd_f (by rw [n_le (by omega) (by omega)]; omega)]
      exact (word_83 (k71 := fn_X9_word_71 m) (by omega : k < 8) hT g19 g18 hse heN q2 q3 (wlen k) 0 hFuel (by omega) (by unfold hFuel; omega) (fun q hq => absurd hq (Nat.not_lt_zero _)) (by omega)).trans r1
    by_cases c : wm b k st en
    · refine hstep (sI (sI T 0 20 0) 0 21 (nI k)) ⟨(f1.tr (M2_s (by decide))).tr (M2_s (by decide)), fun j z1 z2 => ?_, Or.inl ⟨k, by omega, c, ?_, sI_eq⟩⟩ (fun _ => rfl) (fun z => absurd c z)
      · rw [sI_nk z2, sI_nk z1]; exact f2 j z1 z2
      · rw [sI_nk (by decide), sI_eq]
    · refine hstep T ⟨f1, f2, ?_⟩ (fun z => absurd z c) (fun _ => rfl)
      rcases f3 with ⟨w, z1, z2, z3, z4⟩ | ⟨z1, z2⟩
      · exact Or.inl ⟨w, by omega, z2, z3, z4⟩
      · refine Or.inr ⟨fun w hw => ?_, z2⟩
        by_cases ew : w = k
        · rw [ew]; exact c
        · exact z1 w (by omega)
theorem word_M {b : Nat → Nat} {N st : Nat} {M : HS} (hL : ML M b N) (hst : st < N) (hl : isL (b st) = true) (h19 : gI M 0 19 = nI st) (h18 : gI M 0 18 = nI (rn isL b N st)) : ∃ M', fn_X9_word (nI (b st)) M = some M' ∧ M2 M M' ∧ (∀ j, j ≠ 20 → j ≠ 21 → gI M' 0 j = gI M 0 j) ∧ VT b N st (gI M' 0 20) (gI M' 0 21) := by
  have hN := hL.2.1
  have lb := (hL.2.2 st (by omega)).2
  have hr := rn_b (P := isL) (b := b) (N := N) (N - st) st (Nat.le_refl _) (by omega)
  have hte : te b N st = rn isL b N st := by unfold te; rw [if_pos hst, if_pos hl]
  unfold fn_X9_word
  rw [h18, h19, show nI st + 1 = nI (st + 1) by rw [n_lit, n_add]]
  by_cases c : rn isL b N st = st + 1
  · rw [cd_t (by rw [c])]
    have a1 : (nI (b st) < 97) ↔ b st < 97 := by rw [n_lit, n_lt (by omega) (by omega)]
    have a2 : (70 < nI (b st)) ↔ 70 < b st := by rw [n_lit, n_lt (by omega) (by omega)]
    have hset : ∀ x y : Int32, VT b N st x y → ∃ M', some (sI (sI M 0 20 x) 0 21 y) = some M' ∧ M2 M M' ∧ (∀ j, j ≠ 20 → j ≠ 21 → gI M' 0 j = gI M 0 j) ∧ VT b N st (gI M' 0 20) (gI M' 0 21) := by
      intro x y hv
      refine ⟨_, rfl, (M2_s (by decide)).tr (M2_s (by decide)), fun j z1 z2 => by rw [sI_nk z2, sI_nk z1], ?_⟩
      rw [sI_eq, sI_nk (by decide), sI_eq]; exact hv
    have hb65 : 65 ≤ b st := by
      unfold isL at hl
      simp at hl
      omega
    unfold fn_X9_word_36 fn_X9_word_57
    simp only [bn_s, a1, a2]
    by_cases c1 : b st < 97
    · rw [cd_t c1, cd_t c1, cd_t c1, show nI (b st) - 65 = nI (b st - 65) by rw [n_lit, n_sub (by omega)]]
      by_cases c2 : 70 < b st
      · rw [cd_t c2]
        exact hset 6 _ (Or.inr (Or.inl ⟨hst, hl, by rw [hte]; exact c, Or.inr (Or.inr ⟨c2, c1, rfl⟩)⟩))
      · rw [cd_f c2]
        exact hset 2 _ (Or.inr (Or.inl ⟨hst, hl, by rw [hte]; exact c, Or.inr (Or.inl ⟨by omega, rfl, rfl⟩)⟩))
    · rw [cd_f c1, cd_f c1, show nI (b st) - 97 = nI (b st - 97) by rw [n_lit, n_sub (by omega)]]
      exact hset 1 _ (Or.inr (Or.inl ⟨hst, hl, by rw [hte]; exact c, Or.inl ⟨by omega, rfl, rfl⟩⟩))
  · rw [cd_f (by rw [n_eq (by omega) (by omega)]; exact c), bn_s]
    obtain ⟨M', q1, q2, q3, q4⟩ := word_71 (M := sI M 0 20 6) (hL.keep (M2_s (by decide))) ((sI_nk (by decide)).trans h19) ((sI_nk (by decide)).trans h18) hr.1 hr.2.1 8 0 hFuel (sI M 0 20 6) rfl (by decide) ⟨M2.rf, fun _ _ _ => rfl, Or.inr ⟨fun w hw => absurd hw (Nat.not_lt_zero _), rfl⟩⟩
    refine ⟨M', q1, (M2_s (by decide)).tr q2, fun j z1 z2 => (q3 j z1 z2).trans (sI_nk z1), ?_⟩
    refine Or.inr (Or.inr (Or.inl ⟨hst, hl, by rw [hte]; exact c, ?_⟩))
    rw [hte]
    rcases q4 with ⟨w, z1, z2, z3, z4⟩ | ⟨z1, z2⟩
    · exact Or.inl ⟨w, z1, z2, z3, z4⟩
    · exact Or.inr ⟨z1, z2.trans sI_eq⟩
/-! the reference's next token -/
theorem next_0 {b : Nat → Nat} {N : Nat} : ∀ (i p m : Nat) (M : HS), N - p ≤ i → i < m → p ≤ N → ML M b N → gI M 0 18 = nI p → ∃ M', fn_X9_next_0 m M = some M' ∧ M2 M M' ∧ gI M' 0 22 = gI M 0 22 ∧ gI M' 0 23 = gI M 0 23 ∧ gI M' 0 19 = nI (rn isB b N p) ∧ gI M' 0 18 = nI (te b N (rn isB b N p)) ∧ VT b N (rn isB b N p) (gI M' 0 20) (gI M' 0 21) := by
  have hZ : ∀ (p m : Nat) (M : HS), p ≤ N → ML M b N → gI M 0 18 = nI p → ¬ (p < N ∧ isB (b p) = true) → ∃ M', fn_X9_next_0 (m + 1) M = some M' ∧ M2 M M' ∧ gI M' 0 22 = gI M 0 22 ∧ gI M' 0 23 = gI M 0 23 ∧ gI M' 0 19 = nI p ∧ gI M' 0 18 = nI (te b N p) ∧ VT b N p (gI M' 0 20) (gI M' 0 21) := by
    intro p m M hp hL h18 hnb
    have hN := hL.2.1
    have hL1 : ML (sI M 0 19 (nI p)) b N := hL.keep (M2_s (by decide))
    have h18' : gI (sI M 0 19 (nI p)) 0 18 = nI p := (sI_nk (by decide)).trans h18
    by_cases c1 : p < N
    · have lb := (hL.2.2 p (by omega)).2
      have hnb' : isB (b p) = false := by
        cases h : isB (b p)
        · rfl
        · exact absurd ⟨c1, h⟩ hnb
      have b10 : ¬ nI (b p) = 10 := by
        rw [n_lit, n_eq (by omega) (by omega)]
        intro z; rw [z] at hnb'; exact absurd hnb' (by decide)
      have b32 : ¬ nI (b p) = 32 := by
        rw [n_lit, n_eq (by omega) (by omega)]
        intro z; rw [z] at hnb'; exact absurd hnb' (by decide)
      have bm : ¬ nI (b p) = -1 := n_neg1 (by omega)
      have hu : fn_X9_next_0 (m + 1) M = cd (bI (isL (b p)) = 0) (cd (bI (isD (b p)) = 0) (bn (some (sI (sI M 0 19 (nI p)) 0 18 (nI p + 1))) (fun S12 => bn (some (sI S12 0 21 (nI (b p)))) (fun S13 => cd (nI (b p) = 61) (fn_X9_next_229 S13) (cd (nI (b p) = 58) (fn_X9_next_229 S13) (cd (nI (b p) = 44) (fn_X9_next_229 S13) (cd (nI (b p) = 59) (fn_X9_next_229 S13) (cd (nI (b p) = 60) (fn_X9_next_229 S13) (cd (nI (b p) = 62) (fn_X9_next_229 S13) (cd (nI (b p) = 37) (fn_X9_next_229 S13) (fn_X9_next_235 6 S13)))))))))) (bn (some (sI (sI M 0 19 (nI p)) 0 20 3)) (fun S14 => bn (some (sI S14 0 21 0)) (fun S15 => fn_X9_next_112 hFuel S15)))) (fn_X9_next_64 hFuel (nI (b p)) (sI M 0 19 (nI p))) := by
        conv => lhs; unfold fn_X9_next_0
        rw [here_y hL h18 c1, bn2_s, cd_f b10, here_y hL h18 c1, bn2_s, cd_f b32, bn_s, h18, here_y hL1 h18' c1, bn2_s, cd_f bm, letter_M lb, bn2_s, digit_M lb, bn2_s, h18']
      rw [hu]
      cases hl : isL (b p)
      · rw [show bI false = 0 from rfl, cd_t rfl]
        cases hdg : isD (b p)
        · rw [show bI false = 0 from rfl, cd_t rfl]
          have hte : te b N p = p + 1 := by unfold te; rw [if_pos c1, hl, hdg]; rfl
          have hset : ∀ x : Int32, ((isS (b p) = true ∧ x = 4) ∨ (isS (b p) = false ∧ x = 6)) → ∃ M', some (sI (sI (sI (sI M 0 19 (nI p)) 0 18 (nI p + 1)) 0 21 (nI (b p))) 0 20 x) = some M' ∧ M2 M M' ∧ gI M' 0 22 = gI M 0 22 ∧ gI M' 0 23 = gI M 0 23 ∧ gI M' 0 19 = nI p ∧ gI M' 0 18 = nI (te b N p) ∧ VT b N p (gI M' 0 20) (gI M' 0 21) := by
            intro x hx
            refine ⟨_, rfl, (((M2_s (by decide)).tr (M2_s (by decide))).tr (M2_s (by decide))).tr (M2_s (by decide)), rfl, rfl, ?_, ?_, ?_⟩
            · rw [sI_nk (by decide), sI_nk (by decide), sI_nk (by decide), sI_eq]
            · rw [sI_nk (by decide), sI_nk (by decide), sI_eq, hte, n_lit, n_add]
            · rw [sI_eq, sI_nk (by decide), sI_eq]
              exact Or.inr (Or.inr (Or.inr (Or.inr ⟨c1, hl, hdg, hnb', rfl, hx⟩)))
          unfold fn_X9_next_229 fn_X9_next_235 fn_X9_next_238
          simp only [bn_s]
          have a : ∀ n : Nat, n < 256 → ((nI (b p) = nI n) ↔ b p = n) := fun n hn => n_eq (by omega) (by omega)
          by_cases d1 : b p = 61
          · rw [cd_t (show nI (b p) = 61 from (a 61 (by decide)).mpr d1)]; exact hset 4 (Or.inl ⟨by rw [d1]; decide, rfl⟩)
          rw [cd_f (show ¬ nI (b p) = 61 from fun z => d1 ((a 61 (by decide)).mp z))]
          by_cases d2 : b p = 58
          · rw [cd_t (show nI (b p) = 58 from (a 58 (by decide)).mpr d2)]; exact hset 4 (Or.inl ⟨by rw [d2]; decide, rfl⟩)
          rw [cd_f (show ¬ nI (b p) = 58 from fun z => d2 ((a 58 (by decide)).mp z))]
          by_cases d3 : b p = 44
          · rw [cd_t (show nI (b p) = 44 from (a 44 (by decide)).mpr d3)]; exact hset 4 (Or.inl ⟨by rw [d3]; decide, rfl⟩)
          rw [cd_f (show ¬ nI (b p) = 44 from fun z => d3 ((a 44 (by decide)).mp z))]
          by_cases d4 : b p = 59
          · rw [cd_t (show nI (b p) = 59 from (a 59 (by decide)).mpr d4)]; exact hset 4 (Or.inl ⟨by rw [d4]; decide, rfl⟩)
          rw [cd_f (show ¬ nI (b p) = 59 from fun z => d4 ((a 59 (by decide)).mp z))]
          by_cases d5 : b p = 60
          · rw [cd_t (show nI (b p) = 60 from (a 60 (by decide)).mpr d5)]; exact hset 4 (Or.inl ⟨by rw [d5]; decide, rfl⟩)
          rw [cd_f (show ¬ nI (b p) = 60 from fun z => d5 ((a 60 (by decide)).mp z))]
          by_cases d6 : b p = 62
          · rw [cd_t (show nI (b p) = 62 from (a 62 (by decide)).mpr d6)]; exact hset 4 (Or.inl ⟨by rw [d6]; decide, rfl⟩)
          rw [cd_f (show ¬ nI (b p) = 62 from fun z => d6 ((a 62 (by decide)).mp z))]
          by_cases d7 : b p = 37
          · rw [cd_t (show nI (b p) = 37 from (a 37 (by decide)).mpr d7)]; exact hset 4 (Or.inl ⟨by rw [d7]; decide, rfl⟩)
          rw [cd_f (show ¬ nI (b p) = 37 from fun z => d7 ((a 37 (by decide)).mp z))]
          exact hset 6 (Or.inr ⟨by unfold isS; simp [d1, d2, d3, d4, d5, d6, d7], rfl⟩)
        · rw [show bI true = 1 from rfl, cd_f z10, bn_s, bn_s]
          have hte : te b N p = rn isD b N p := by unfold te; rw [if_pos c1, hl, hdg]; rfl
          have hx := next_112 (N - p) p hFuel 0 (sI (sI (sI M 0 19 (nI p)) 0 20 3) 0 21 0) (Nat.le_refl _) (by unfold hFuel; omega) hp (by decide) ((hL1.keep (M2_s (by decide))).keep (M2_s (by decide))) ((sI_nk (by decide)).trans ((sI_nk (by decide)).trans h18')) sI_eq
          rw [hx]
          refine ⟨_, rfl, ((((M2_s (by decide)).tr (M2_s (by decide))).tr (M2_s (by decide))).tr (M2_s (by decide))).tr (M2_s (by decide)), rfl, rfl, ?_, ?_, ?_⟩
          · rw [sI_nk (by decide), sI_nk (by decide), sI_nk (by decide), sI_nk (by decide), sI_eq]
          · rw [sI_eq, hte]
          · rw [sI_nk (by decide), sI_nk (by decide), sI_nk (by decide), sI_eq, sI_nk (by decide), sI_eq]
            exact Or.inr (Or.inr (Or.inr (Or.inl ⟨c1, hdg, rfl, by rw [hte]⟩)))
      · rw [show bI true = 1 from rfl, cd_f z10, next_64 (N - p) p hFuel _ (Nat.le_refl _) (by unfold hFuel; omega) hp hL1 h18']
        obtain ⟨M', q1, q2, q3, q4⟩ := word_M (M := sI (sI M 0 19 (nI p)) 0 18 (nI (rn isL b N p))) (hL1.keep (M2_s (by decide))) c1 hl ((sI_nk (by decide)).trans sI_eq) sI_eq
        have hte : te b N p = rn isL b N p := by unfold te; rw [if_pos c1, if_pos hl]
        refine ⟨M', by rw [q1, bn_s], ((M2_s (by decide)).tr (M2_s (by decide))).tr q2, q3 22 (by decide) (by decide), q3 23 (by decide) (by decide), ?_, ?_, q4⟩
        · rw [q3 19 (by decide) (by decide), sI_nk (by decide), sI_eq]
        · rw [q3 18 (by decide) (by decide), sI_eq, hte]
    · refine ⟨sI (sI M 0 19 (nI p)) 0 20 5, ?_, (M2_s (by decide)).tr (M2_s (by decide)), rfl, rfl, ?_, ?_, ?_⟩
      · conv => lhs; unfold fn_X9_next_0
        rw [here_n hL h18 c1 (by omega), bn2_s, cd_f (by decide), here_n hL h18 c1 (by omega), bn2_s, cd_f (by decide), bn_s, h18, here_n hL1 h18' c1 (by omega), bn2_s, cd_t rfl]
        rfl
      · rw [sI_nk (by decide), sI_eq]
      · rw [sI_nk (by decide), h18']; unfold te; rw [if_neg c1]
      · rw [sI_eq]; exact Or.inl ⟨c1, rfl⟩
  intro i
  induction i with
  | zero =>
    intro p m M e hm hp hL h18
    obtain ⟨m, rfl⟩ : ∃ k, m = k + 1 := ⟨m - 1, by omega⟩
    have hn : ¬ (p < N ∧ isB (b p) = true) := by omega
    rw [rn_n hn]
    exact hZ p m M hp hL h18 hn
  | succ i ih =>
    intro p m M e hm hp hL h18
    obtain ⟨m, rfl⟩ : ∃ k, m = k + 1 := ⟨m - 1, by omega⟩
    by_cases c : p < N ∧ isB (b p) = true
    · have hN := hL.2.1
      have lb := (hL.2.2 p (by omega)).2
      obtain ⟨M', q1, q2, q3, q4, q5, q6, q7⟩ := ih (p + 1) m (sI M 0 18 (nI (p + 1))) (by omega) (by omega) (by omega) (hL.keep (M2_s (by decide))) sI_eq
      rw [rn_y c.1 c.2]
      refine ⟨M', ?_, (M2_s (by decide)).tr q2, q3, q4, q5, q6, q7⟩
      rw [← q1]
      have hb : b p = 10 ∨ b p = 32 := by
        have := c.2
        unfold isB at this
        simpa using this
      have t : nI p + 1 = nI (p + 1) := by rw [n_lit, n_add]
      conv => lhs; unfold fn_X9_next_0
      unfold fn_X9_next_18
      rw [here_y hL h18 c.1, bn2_s]
      rcases hb with hb | hb
      · rw [cd_t (by rw [hb]; rfl), bn_s, h18, t]
      · rw [cd_f (by rw [hb]; decide), here_y hL h18 c.1, bn2_s, cd_t (by rw [hb]; rfl), bn_s, h18, t]
    · rw [rn_n c]
      exact hZ p m M hp hL h18 c
theorem next_M {b : Nat → Nat} {N p : Nat} {M : HS} (hL : ML M b N) (hp : p ≤ N) (h18 : gI M 0 18 = nI p) : ∃ M', fn_X9_next M = some M' ∧ M2 M M' ∧ gI M' 0 22 = gI M 0 22 ∧ gI M' 0 23 = gI M 0 23 ∧ gI M' 0 19 = nI (rn isB b N p) ∧ gI M' 0 18 = nI (te b N (rn isB b N p)) ∧ VT b N (rn isB b N p) (gI M' 0 20) (gI M' 0 21) := by
  have hN := hL.2.1
  exact next_0 (N - p) p hFuel M (Nat.le_refl _) (by unfold hFuel; omega) hp hL h18
