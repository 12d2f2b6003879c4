/-! the relation when the class makes objects -/
def EX (S S' : HS) : Prop := ∀ b, b < gZ S → gK S' b = gK S b ∧ gN S' b = gN S b ∧ (65 ≤ b → gI S' b = gI S b) ∧ (65 ≤ b → gR S 4 1 ≠ some b → gR S 5 1 ≠ some b → gR S' b = gR S b)
theorem lt_Z {S : HS} (h : hFr S) {b κ : Nat} (hk : gK S b = κ) (h9 : κ ≠ 99) : b < gZ S := by
  rcases Nat.lt_or_ge b (gZ S) with q | q
  · exact q
  · exact absurd ((h b q).symm.trans hk).symm h9
theorem JG_k {S : HS} {c M : Nat} {xs : List Nat} (h : JG S c M xs) : ∀ d, gR S c 1 = some d → gK S d = 25 ∧ 65 ≤ d := by
  intro d hd
  rcases h.2.2 with ⟨q1, _⟩ | ⟨d', q1, q2, q3, _⟩
  · rw [q1] at hd; cases hd
  · rw [q1] at hd; injection hd with hd; subst hd; exact ⟨q3, q2⟩
section EXT
variable {S S' SM : HS}
theorem LRel_ext (hfr : hFr S) (h4 : ∀ d, gR S 4 1 = some d → gK S d = 25) (h5 : ∀ d, gR S 5 1 = some d → gK S d = 25) (hx : EX S S') {o n : Nat} (h : LRel S SM o n) : LRel S' SM o n := by
  obtain ⟨a1, a2, a3, a4, a5, a6, a7, a8⟩ := h
  obtain ⟨e1, e2, e3, e4⟩ := hx o (lt_Z hfr a2 (by decide))
  have e4 := e4 a1 (fun z => by have := h4 o z; omega) (fun z => by have := h5 o z; omega)
  have e3 := e3 a1
  unfold LRel
  rw [e1, e3, e4]
  refine ⟨a1, a2, a3, a4, a5, a6, a7, fun z => ⟨(a8 z).1, (a8 z).2.1, fun y => ⟨((a8 z).2.2 y).1, ?_⟩⟩⟩
  obtain ⟨d, b1, b2, b3, b4, b5⟩ := ((a8 z).2.2 y).2
  obtain ⟨f1, f2, f3, _⟩ := hx d (lt_Z hfr b3 (by decide))
  exact ⟨d, b1, b2, by rw [f1]; exact b3, by rw [f2]; exact b4, by rw [f3 b2]; exact b5⟩
theorem NRel_ext (hfr : hFr S) (hx : EX S S') {o k : Nat} (h : NRel S SM o k) : NRel S' SM o k := by
  obtain ⟨e1, e2, e3, e4⟩ := hx o (lt_Z hfr h.2.1 (by decide))
  unfold NRel at *
  rw [e1, e3 h.1]
  exact h
theorem ARel_ext (hfr : hFr S) (h4 : ∀ d, gR S 4 1 = some d → gK S d = 25) (h5 : ∀ d, gR S 5 1 = some d → gK S d = 25) (n4 : ∀ d, gR S' 4 1 = some d → gR S 4 1 = some d ∨ gZ S ≤ d) (n5 : ∀ d, gR S' 5 1 = some d → gR S 5 1 = some d ∨ gZ S ≤ d) (hx : EX S S') {oL : Nat → Nat} {o a : Nat} (h : ARel S SM oL o a) : ARel S' SM oL o a := by
  obtain ⟨a1, a2, a3, a4, a5, l, b1, b2, b3, b4, d, b5, b6, b7, b8⟩ := h
  obtain ⟨e1, e2, e3, e4⟩ := hx o (lt_Z hfr a2 (by decide))
  have e4 := e4 a1 (fun z => by have := h4 o z; omega) (fun z => by have := h5 o z; omega)
  have e3 := e3 a1
  obtain ⟨f1, f2, f3, f4⟩ := hx l (lt_Z hfr b3 (by decide))
  have f4 := f4 b2 (fun z => by have := h4 l z; omega) (fun z => by have := h5 l z; omega)
  have f3 := f3 b2
  unfold ARel
  rw [e1, e3, e4]
  refine ⟨a1, a2, a3, a4, a5, l, b1, b2, by rw [f1]; exact b3, by rw [f3]; exact b4, ?_⟩
  by_cases c : qL SM a < qL SM (a + 1)
  · have hk := (b8 (qL SM a) (Nat.le_refl _) c).2.1
    have hdz := lt_Z hfr hk (by decide)
    obtain ⟨g1, g2, g3, g4⟩ := hx d hdz
    refine ⟨d, b5, fun z => ?_, fun z => ?_, fun n h1 h2 => ?_⟩
    · rcases n4 d z with q | q
      · exact b6 q
      · omega
    · rcases n5 d z with q | q
      · exact b7 q
      · omega
    · rw [f4, g1, g2, g4 b5 b6 b7]; exact b8 n h1 h2
  · obtain ⟨x, hx4⟩ : ∃ x, ∀ d, gR S' 4 1 = some d → d ≤ x := by
      cases gR S' 4 1 with
      | none => exact ⟨0, fun d h => by cases h⟩
      | some y => exact ⟨y, fun d h => by injection h with h; omega⟩
    obtain ⟨y, hx5⟩ : ∃ x, ∀ d, gR S' 5 1 = some d → d ≤ x := by
      cases gR S' 5 1 with
      | none => exact ⟨0, fun d h => by cases h⟩
      | some y => exact ⟨y, fun d h => by injection h with h; omega⟩
    refine ⟨65 + x + y + 1, by omega, fun z => ?_, fun z => ?_, fun n h1 h2 => by omega⟩
    · have := hx4 _ z; omega
    · have := hx5 _ z; omega
theorem JG_ext (hfr : hFr S) {c M : Nat} {xs : List Nat} (h : JG S c M xs) (hk : gK S' c = 0) (h2 : gI S' c 2 = gI S c 2) (h1 : gR S' c 1 = gR S c 1) (hx : ∀ b, b < gZ S → gK S' b = gK S b ∧ gN S' b = gN S b) (hR : ∀ d, gR S c 1 = some d → gR S' d = gR S d) : JG S' c M xs := by
  obtain ⟨a, b, q⟩ := h
  refine ⟨hk, by rw [h2]; exact b, ?_⟩
  rcases q with ⟨q1, q2⟩ | ⟨d, q1, q2, q3, q4, q5, q6, q7, q8⟩
  · exact Or.inl ⟨by rw [h1]; exact q1, q2⟩
  · have hd := hx d (lt_Z hfr q3 (by decide))
    refine Or.inr ⟨d, by rw [h1]; exact q1, q2, by rw [hd.1]; exact q3, by rw [hd.2]; exact q4, by rw [hd.2]; exact q5, by rw [hd.2]; exact q6, ?_, by rw [hR d q1]; exact q8⟩
    intro j hj y hy
    rw [hd.2] at hj
    rw [hR d q1] at hy
    have h3 := q7 j hj y hy
    have hyz : y < gZ S := by
      rcases h3 with h3 | h3 | h3
      · exact lt_Z hfr h3 (by decide)
      · exact lt_Z hfr h3 (by decide)
      · exact lt_Z hfr h3 (by decide)
    rw [(hx y hyz).1]; exact h3
theorem ERel_ext (hI : ∀ b, b < 24 → b ≠ 4 → b ≠ 5 → gI S' b = gI S b) (hJ : ∀ b, b < 24 → gJ S' b = gJ S b) (e : ERel S SM) : ERel S' SM := by
  unfold ERel at *
  rw [hI 0 (by decide) (by decide) (by decide), hI 1 (by decide) (by decide) (by decide), hI 2 (by decide) (by decide) (by decide), hI 16 (by decide) (by decide) (by decide), hI 18 (by decide) (by decide) (by decide), hI 20 (by decide) (by decide) (by decide), hJ 15 (by decide), hJ 17 (by decide), hJ 19 (by decide), hJ 21 (by decide)]
  exact e
end EXT
/-! notes, in their order -/
theorem wins_M {S S' : HS} (kM : ∀ c, 2 ≤ c → c < 6 → gI S' c = gI S c) (e7 : gI S' 0 7 = gI S 0 7) : qA S' = qA S ∧ qF S' = qF S ∧ lns S' = lns S ∧ wLast S' = wLast S ∧ wins S' = wins S := by
  have q1 : qA S' = qA S := by unfold qA; rw [e7]
  have q4 : qF S' = qF S := by funext a; unfold qF; rw [kM 3 (by omega) (by omega)]
  have q5 : qL S' = qL S := by funext a; unfold qL; rw [kM 4 (by omega) (by omega)]
  have q6 : qK S' = qK S := by funext a; unfold qK; rw [kM 5 (by omega) (by omega)]
  have e2 := kM 2 (by omega) (by omega)
  have el : lns S' = lns S := by funext a; unfold lns; rw [q5]
  have em : wMax S' = wMax S := by funext a b c d e; unfold wMax; rw [q6, q4, e2]
  have ew : wLast S' = wLast S := by funext a b c d e; unfold wLast; rw [q6, q4, e2]
  refine ⟨q1, q4, el, ew, ?_⟩
  funext a b c
  unfold wins
  rw [q1, el, em]
theorem ORel_note {S S' : HS} {LA NL : List Nat} {k fr : Nat} (h : ORel S LA NL) (kM : ∀ c, 2 ≤ c → c < 6 → gI S' c = gI S c) (e7 : gI S' 0 7 = gI S 0 7) (hk : qN S = k) (hk' : qN S' = k + 1) (h17 : ∀ j, j < k → nFr S' j = nFr S j) (hfr : nFr S' k = fr) : ORel S' LA (insL NL (cLt (nFr S) NL (fr + 1)) k) := by
  obtain ⟨o1, o2, o3, o4, o5, o6⟩ := h
  obtain ⟨w1, w2, w3, w4, w5⟩ := wins_M kM e7
  have hs := srt (f := nFr S) (d := fr + 1) NL o5
  have hmem : ∀ a ∈ NL, a < k := fun a ha => by have := List.mem_range.mp (o4.mem_iff.mp ha); omega
  have htd : NL.take (cLt (nFr S) NL (fr + 1)) ++ NL.drop (cLt (nFr S) NL (fr + 1)) = NL := List.take_append_drop _ _
  have ht : ∀ a ∈ NL.take (cLt (nFr S) NL (fr + 1)), a ∈ NL ∧ nFr S a ≤ fr := fun a ha => by
    rw [hs.2] at ha
    obtain ⟨z1, z2⟩ := List.mem_filter.mp ha
    have z2 : nFr S a < fr + 1 := by simpa using z2
    exact ⟨z1, by omega⟩
  have hdr : ∀ a ∈ NL.drop (cLt (nFr S) NL (fr + 1)), a ∈ NL ∧ fr + 1 ≤ nFr S a := fun a ha => by
    rw [hs.1] at ha
    obtain ⟨z1, z2⟩ := List.mem_filter.mp ha
    exact ⟨z1, by simpa using z2⟩
  generalize hT : NL.take (cLt (nFr S) NL (fr + 1)) = T at *
  generalize hD : NL.drop (cLt (nFr S) NL (fr + 1)) = E at *
  unfold insL
  rw [hT, hD]
  refine ⟨by rw [w1]; exact o1, by rw [w2]; exact o2, by rw [w3, w4, w5]; exact o3, ?_, ?_, fun d => ?_⟩
  · rw [hk', List.range_succ]
    refine List.perm_middle.trans ?_
    rw [htd]
    refine (List.Perm.cons k o4).trans ?_
    rw [hk]
    exact (List.perm_append_singleton k (List.range k)).symm
  · have hp : (T ++ E).Pairwise (fun a b => nFr S a ≤ nFr S b) := by rw [htd]; exact o5
    rw [List.pairwise_append] at hp
    show (T ++ k :: E).Pairwise (fun a b => nFr S' a ≤ nFr S' b)
    rw [List.pairwise_append, List.pairwise_cons]
    refine ⟨hp.1.imp_of_mem (fun ha hb z => ?_), ⟨fun b hb => ?_, hp.2.1.imp_of_mem (fun ha hb z => ?_)⟩, fun a ha b hb => ?_⟩
    · rw [h17 _ (hmem _ (ht _ ha).1), h17 _ (hmem _ (ht _ hb).1)]; exact z
    · rw [hfr, h17 _ (hmem _ (hdr _ hb).1)]; have := (hdr _ hb).2; omega
    · rw [h17 _ (hmem _ (hdr _ ha).1), h17 _ (hmem _ (hdr _ hb).1)]; exact z
    · rw [h17 _ (hmem _ (ht _ ha).1)]
      rcases List.mem_cons.mp hb with rfl | hb
      · rw [hfr]; exact (ht _ ha).2
      · rw [h17 _ (hmem _ (hdr _ hb).1)]; have := (ht _ ha).2; have := (hdr _ hb).2; omega
  · show (T ++ k :: E).filter (fun j => nFr S' j == d) = (List.range (qN S')).filter (fun j => nFr S' j == d)
    have hr : (List.range k).filter (fun j => nFr S' j == d) = (T ++ E).filter (fun j => nFr S j == d) := by
      rw [htd, ← hk]
      refine Eq.trans ?_ (o6 d).symm
      apply List.filter_congr
      intro j hj
      show (nFr S' j == d) = (nFr S j == d)
      rw [h17 j (by have := List.mem_range.mp hj; omega)]
    have hT2 : T.filter (fun j => nFr S' j == d) = T.filter (fun j => nFr S j == d) := List.filter_congr (fun j hj => by rw [h17 j (hmem j (ht j hj).1)])
    have hE2 : E.filter (fun j => nFr S' j == d) = E.filter (fun j => nFr S j == d) := List.filter_congr (fun j hj => by rw [h17 j (hmem j (hdr j hj).1)])
    rw [hk', List.range_succ, List.filter_append, List.filter_append, hr, List.filter_append, hT2, List.filter_cons, hE2, List.filter_cons, hfr, List.filter_nil]
    by_cases c : fr = d
    · have hE0 : E.filter (fun j => nFr S j == d) = [] := List.filter_eq_nil_iff.mpr (fun j hj => by have := (hdr j hj).2; simp; omega)
      rw [hE0]
      simp [c]
    · simp [c]
/-! values -/
theorem val_C {w : Nat} (hw : w < 9) (v : Int32) : (VOK (nI w) v ∧ (∀ S, fn_X8_canBecome (nI w) v S = some (1, S)) ∧ ∀ S, fn_X9_isValue (nI w) v S = some (1, S)) ∨ ((∀ S, fn_X8_canBecome (nI w) v S = some (0, S)) ∧ ∀ S, fn_X9_isValue (nI w) v S = some (0, S)) := by
  have f0 : ¬ nI w < 0 := n_ge0 (by omega)
  have f9 : nI w < 9 := by rw [n_lit, n_lt (by omega) (by omega)]; exact hw
  have hI : ∀ (a : Int32) (n : Nat), a = nI n → n < 2147483648 → (nI w = a ↔ w = n) := fun a n e ln => by rw [e, n_eq (by omega) ln]
  have g1 : ∀ S : HS, gd (False ∨ True) (some ((1 : Int32), S)) = some (1, S) := fun S => gd_t (Or.inr trivial)
  unfold fn_X8_canBecome fn_X8_canBecome_65 fn_X8_canBecome_60 fn_X8_canBecome_37 fn_X8_canBecome_36 fn_X8_isPart fn_X8_isPart_35 fn_X8_isPart_34 fn_X9_isValue fn_X9_isValue_84 fn_X9_isValue_83 fn_X9_isValue_46 fn_X9_isValue_41 fn_X9_isValue_25 fn_X9_isValue_24
  simp only [f0, f9, cd_F, cd_T, bn_s, or_true, true_or, gd_T, fn_X8_canBecome_65, fn_X8_canBecome_37, fn_X8_isPart_35, fn_X9_isValue_84, fn_X9_isValue_46, fn_X9_isValue_25]
  by_cases c6 : 6 ≤ w
  · have e6 : (6 : Int32) ≤ nI w := by rw [n_lit, n_le (by omega) (by omega)]; exact c6
    simp only [e6, cd_T]
    by_cases c7 : w = 7
    · subst c7
      have e7 : nI 7 = 7 := rfl
      simp only [e7, cd_T]
      by_cases n0 : v ≤ 0
      · right
        refine ⟨fun S => ?_, fun S => cd_t n0⟩
        by_cases n1 : v < 0
        · rw [cd_t n1, bn2_s]; exact gd0 S
        · have : v = 0 := by
            rw [t_le] at n0; rw [t_lt] at n1
            apply t_eq.mpr
            have : (0 : Int32).toInt = 0 := rfl
            omega
          subst this
          rw [cd_f n1, cd_t (by decide), bn2_s]; exact gd0 S
      · have n1 : ¬ v < 0 := by
          rw [t_le] at n0; rw [t_lt]; omega
        obtain ⟨x, lx, rfl⟩ : ∃ x, x < 2147483648 ∧ v = nI x := by
          refine ⟨v.toNatClampNeg, ?_, (Int32.ofNat_toNatClampNeg v (by simpa using n1)).symm⟩
          have h2 := Int32.toInt_lt v
          have h3 : v.toNatClampNeg = v.toInt.toNat := rfl
          omega
        have em : nI x - nI x / 10 * 10 = nI (x % 10) := n_mod (b := 10) lx (by decide)
        have ed : nI x / 10 = nI (x / 10) := n_div (b := 10) lx (by decide)
        rw [em, ed]
        by_cases m1 : x % 10 < 1
        · right
          have q1 : nI (x % 10) < 1 := by rw [n_lit, n_lt (by omega) (by omega)]; exact m1
          exact ⟨fun S => by rw [cd_f n1, cd_t q1, bn2_s]; exact gd0 S, fun S => by rw [cd_f n0, cd_t q1]⟩
        have q1 : ¬ nI (x % 10) < 1 := by rw [n_lit, n_lt (by omega) (by omega)]; exact m1
        by_cases m2 : 8 < x % 10
        · right
          have q2 : (8 : Int32) < nI (x % 10) := by rw [n_lit, n_lt (by omega) (by omega)]; exact m2
          exact ⟨fun S => by rw [cd_f n1, cd_f q1, cd_t q2, bn2_s]; exact gd0 S, fun S => by rw [cd_f n0, cd_f q1, cd_t q2]⟩
        have q2 : ¬ (8 : Int32) < nI (x % 10) := by rw [n_lit, n_lt (by omega) (by omega)]; exact m2
        by_cases m3 : x % 10 < x / 10
        · right
          have q3 : nI (x % 10) < nI (x / 10) := by rw [n_lt (by omega) (by omega)]; exact m3
          exact ⟨fun S => by rw [cd_f n1, cd_f q1, cd_f q2, cd_t q3, bn2_s]; exact gd0 S, fun S => by rw [cd_f n0, cd_f q1, cd_f q2, cd_t q3]⟩
        · left
          have q3 : ¬ nI (x % 10) < nI (x / 10) := by rw [n_lt (by omega) (by omega)]; exact m3
          refine ⟨⟨fun z => ?_, fun _ => ⟨(n_in (by omega)).mpr (by omega), ?_⟩⟩, fun S => by rw [cd_f n1, cd_f q1, cd_f q2, cd_f q3, bn2_s]; exact gd1 S, fun S => by rw [cd_f n0, cd_f q1, cd_f q2, cd_f q3]⟩
          · rcases z with z | z
            · exact absurd z (by decide)
            · exact absurd z (by decide)
          · rw [n_cl lx]; omega
    · have e7 : ¬ nI w = 7 := by rw [n_lit, n_eq (by omega) (by omega)]; exact c7
      simp only [e7, cd_F]
      by_cases v0 : v = 0
      · left
        exact ⟨⟨fun _ => Or.inl v0, fun z => absurd z e7⟩, fun S => cd_t v0, fun S => cd_t v0⟩
      by_cases v1 : v = 1
      · left
        exact ⟨⟨fun _ => Or.inr v1, fun z => absurd z e7⟩, fun S => (cd_f v0).trans (cd_t v1), fun S => (cd_f v0).trans (cd_t v1)⟩
      · right
        exact ⟨fun S => (cd_f v0).trans (cd_f v1), fun S => (cd_f v0).trans (cd_f v1)⟩
  · have e6 : ¬ (6 : Int32) ≤ nI w := by rw [n_lit, n_le (by omega) (by omega)]; exact c6
    simp only [e6, cd_F]
    by_cases v0 : v < -9999
    · right; exact ⟨fun S => cd_t v0, fun S => cd_t v0⟩
    by_cases v1 : 9999 < v
    · right; exact ⟨fun S => (cd_f v0).trans (cd_t v1), fun S => (cd_f v0).trans (cd_t v1)⟩
    · left
      refine ⟨⟨fun z => ?_, fun z => ?_⟩, fun S => (cd_f v0).trans (cd_f v1), fun S => (cd_f v0).trans (cd_f v1)⟩
      · rcases z with z | z
        · rw [n_lit, n_eq (by omega) (by omega)] at z; omega
        · rw [n_lit, n_eq (by omega) (by omega)] at z; omega
      · rw [n_lit, n_eq (by omega) (by omega)] at z; omega
