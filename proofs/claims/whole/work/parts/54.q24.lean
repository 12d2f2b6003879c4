/-! ArrayLists that grow -/
def insL (xs : List Nat) (i e : Nat) : List Nat := xs.take i ++ e :: xs.drop i
theorem insL_len {xs : List Nat} {i e : Nat} (h : i ≤ xs.length) : (insL xs i e).length = xs.length + 1 := by
  unfold insL
  rw [List.length_append, List.length_cons, List.length_take, List.length_drop]
  omega
theorem insL_get {xs : List Nat} {i e j : Nat} (h : i ≤ xs.length) (hj : j < xs.length + 1) : (insL xs i e).getD j 0 = if j < i then xs.getD j 0 else if j = i then e else xs.getD (j - 1) 0 := by
  unfold insL
  have hl : (xs.take i).length = i := by rw [List.length_take]; omega
  rw [List.getD_eq_getElem?_getD, List.getD_eq_getElem?_getD, List.getD_eq_getElem?_getD]
  by_cases c : j < i
  · rw [if_pos c, List.getElem?_append_left (by omega), List.getElem?_take_of_lt c]
  · rw [if_neg c, List.getElem?_append_right (by omega), hl]
    by_cases c2 : j = i
    · rw [if_pos c2, c2, Nat.sub_self]; rfl
    · rw [if_neg c2, show j - i = (j - i - 1) + 1 by omega, List.getElem?_cons_succ, List.getElem?_drop, show i + (j - i - 1) = j - 1 by omega]
/-- what an ArrayList's growing leaves -/
def FA (c : Nat) (S S' : HS) : Prop := (∀ b, b < gZ S → b ≠ c → gI S' b = gI S b) ∧ (∀ b, b < gZ S → b ≠ c → gR S c 1 ≠ some b → gR S' b = gR S b) ∧ (∀ b, b < gZ S → gJ S' b = gJ S b) ∧ (∀ b, b < gZ S → gK S' b = gK S b) ∧ (∀ b, b < gZ S → gN S' b = gN S b) ∧ gZ S ≤ gZ S' ∧ (gR S' c 1 = gR S c 1 ∨ gR S' c 1 = some (gZ S)) ∧ (hC S → hC S') ∧ (hFr S → hFr S')
def kEl (S : HS) (e : Nat) : Prop := gK S e = 1 ∨ gK S e = 3 ∨ gK S e = 4
/-- an array with its first places filled -/
def AR (S : HS) (z M : Nat) (xs : List Nat) : Prop := 65 ≤ z ∧ gK S z = 25 ∧ 2 ≤ gN S z ∧ gN S z ≤ M ∧ xs.length < gN S z ∧ hEl S z ∧ ∀ j, j < xs.length → gR S z j = some (xs.getD j 0)
theorem ins_J {S : HS} {c e z M i : Nat} {xs : List Nat} (hc : gK S c = 0) (he : kEl S e) (hA : AR S z M xs) (hM : M < 2147483648) (hi : i ≤ xs.length) (h1 : gR S c 1 = some z) : ∃ S', fl_ins c e z (nI i) (nI xs.length) S = some S' ∧ JG S' c M (insL xs i e) ∧ (∀ b, b ≠ c → gI S' b = gI S b) ∧ (∀ b, b ≠ z → gR S' b = gR S b) ∧ gJ S' = gJ S ∧ gK S' = gK S ∧ gN S' = gN S ∧ gZ S' = gZ S := by
  obtain ⟨a1, a2, a3, a4, a5, a6, a7⟩ := hA
  have hcz : c ≠ z := by intro h; rw [h, a2] at hc; cases hc
  have t1 : nI i + 1 = nI (i + 1) := by rw [n_lit, n_add]
  have t2 : nI xs.length - nI i = nI (xs.length - i) := n_sub hi
  have t3 : nI xs.length + 1 = nI (xs.length + 1) := by rw [n_lit, n_add]
  have c1 : (nI i).toNatClampNeg = i := n_cl (by omega)
  have c2 : (nI (i + 1)).toNatClampNeg = i + 1 := n_cl (by omega)
  have c3 : (nI (xs.length - i)).toNatClampNeg = xs.length - i := n_cl (by omega)
  refine ⟨sI (sR (sRf S z (va_cpy (gR S z) (gR S z) i (i + 1) (xs.length - i))) z i (some e)) c 2 (nI (xs.length + 1)), ?_, ?_, fun b hb => sI_ne hb, fun b hb => ?_, rfl, rfl, rfl, rfl⟩
  · unfold fl_ins
    rw [t1, t2, t3, c1, c2, c3, gd_t ⟨a2, n_ge0 (by omega), n_ge0 (by omega), n_ge0 (by omega), by omega, by omega, a6⟩, bn_s, gd_t ⟨a2, hc, he, (n_in (by omega)).mpr (by show i < gN S z; omega)⟩]
  · have hg : ∀ j, gR (sI (sR (sRf S z (va_cpy (gR S z) (gR S z) i (i + 1) (xs.length - i))) z i (some e)) c 2 (nI (xs.length + 1))) z j = if j = i then some e else va_cpy (gR S z) (gR S z) i (i + 1) (xs.length - i) j := by
      intro j
      rw [gR_sI, gR_sR, gR_sRf, if_pos rfl]
      simp only [true_and]
    refine ⟨hc, by rw [sI_eq, insL_len hi], Or.inr ⟨z, ?_, a1, a2, a3, a4, by rw [insL_len hi]; exact a5, ?_, fun j hj => ?_⟩⟩
    · rw [gR_sI, gR_sR, if_neg (fun q => hcz q.1), gR_sRf, if_neg hcz]; exact h1
    · intro j hj y hy
      rw [hg] at hy
      by_cases q : j = i
      · rw [if_pos q] at hy; injection hy with hy; subst hy; exact he
      · rw [if_neg q] at hy
        unfold va_cpy at hy
        split at hy
        · rename_i q2
          exact a6 _ (by show i + (j - (i + 1)) < gN S z; have : j < gN S z := hj; omega) y hy
        · exact a6 j hj y hy
    · rw [insL_len hi] at hj
      rw [hg, insL_get hi hj]
      by_cases q : j = i
      · rw [if_pos q, if_neg (by omega), if_pos q]
      · rw [if_neg q]
        unfold va_cpy
        by_cases q2 : j < i
        · rw [if_neg (by omega), if_pos q2]; exact a7 j (by omega)
        · rw [if_pos (by omega), if_neg q2, if_neg q, show i + (j - (i + 1)) = j - 1 by omega]; exact a7 (j - 1) (by omega)
  · rw [gR_sI]
    funext j
    rw [gR_sR, if_neg (fun q => hb q.1), gR_sRf, if_neg hb]
theorem st_J {S : HS} {c e z M : Nat} {xs : List Nat} (hc : gK S c = 0) (he : kEl S e) (hA : AR S z M xs) (hM : M < 2147483648) (h1 : gR S c 1 = some z) : ∃ S', fl_st c e z (nI xs.length) S = some S' ∧ JG S' c M (xs ++ [e]) ∧ (∀ b, b ≠ c → gI S' b = gI S b) ∧ (∀ b, b ≠ z → gR S' b = gR S b) ∧ gJ S' = gJ S ∧ gK S' = gK S ∧ gN S' = gN S ∧ gZ S' = gZ S := by
  obtain ⟨a1, a2, a3, a4, a5, a6, a7⟩ := hA
  have hcz : c ≠ z := by intro h; rw [h, a2] at hc; cases hc
  have t3 : nI xs.length + 1 = nI (xs.length + 1) := by rw [n_lit, n_add]
  have c1 : (nI xs.length).toNatClampNeg = xs.length := n_cl (by omega)
  have hl : (xs ++ [e]).length = xs.length + 1 := by simp
  refine ⟨sI (sR S z xs.length (some e)) c 2 (nI (xs.length + 1)), ?_, ⟨hc, by rw [sI_eq, hl], Or.inr ⟨z, ?_, a1, a2, a3, a4, by rw [hl]; exact a5, ?_, fun j hj => ?_⟩⟩, fun b hb => sI_ne hb, fun b hb => sR_ne hb, rfl, rfl, rfl, rfl⟩
  · unfold fl_st
    rw [t3, c1, gd_t ⟨a2, hc, he, (n_in (by omega)).mpr a5⟩]
  · rw [gR_sI, gR_sR, if_neg (fun q => hcz q.1)]; exact h1
  · intro j hj y hy
    rw [gR_sI, gR_sR] at hy
    by_cases q : z = z ∧ j = xs.length
    · rw [if_pos q] at hy; injection hy with hy; subst hy; exact he
    · rw [if_neg q] at hy; exact a6 j hj y hy
  · rw [hl] at hj
    rw [gR_sI, gR_sR, List.getD_eq_getElem?_getD]
    by_cases q : j = xs.length
    · rw [if_pos ⟨rfl, q⟩, q, List.getElem?_append_right (Nat.le_refl _), Nat.sub_self]; rfl
    · rw [if_neg (fun z => q z.2), List.getElem?_append_left (by omega), ← List.getD_eq_getElem?_getD]; exact a7 j (by omega)
/-- a list, ready for one more -/
theorem grow_J {S : HS} {c M : Nat} {xs : List Nat} (hJ : JG S c M xs) (hM : M ≤ 10000) (hM2 : 10 ≤ M) (hg : xs.length + xs.length / 2 ≤ M) (hc : c < gZ S) (hz : 65 ≤ gZ S) (hfr : hFr S) : (∃ z S', (gI S c 2 = nI ((gR S c 1).elim 0 (gN S))) ∧ fl_grow c M S = some (z, S') ∧ AR S' z M xs ∧ gR S' c 1 = some z ∧ z = gZ S ∧ FA c S S' ∧ gI S' c 2 = gI S c 2) ∨ (∃ z, ¬ (gI S c 2 = nI ((gR S c 1).elim 0 (gN S))) ∧ gR S c 1 = some z ∧ AR S z M xs) := by
  obtain ⟨k, l, q⟩ := hJ
  have hzk : gK S (gZ S) = 99 := hfr _ (Nat.le_refl _)
  have hN : ∀ n, 2 ≤ n → hC S → hC (sR (aN S 25 n) c 1 (some (gZ S))) := fun n _ h => hC_sR (hC_aN h _ _) (κ := 0) (by rw [gK_aN, if_neg (by omega)]; exact k) (by decide)
  have hFN : ∀ n, hFr (sR (aN S 25 n) c 1 (some (gZ S))) := fun n b hb => by
    have hb : gZ S + 1 ≤ b := hb
    show gK (aN S 25 n) b = 99
    rw [gK_aN, if_neg (by omega)]; exact hfr b (by omega)
  rcases q with ⟨q1, q2⟩ | ⟨d, q1, q2, q3, q4, q5, q6, q7, q8⟩
  · subst q2
    left
    refine ⟨gZ S, sR (aN S 25 10) c 1 (some (gZ S)), by rw [q1, l]; rfl, ?_, ?_, ?_, rfl, ⟨fun b h1 h2 => ?_, fun b h1 h2 h3 => ?_, fun b h1 => ?_, fun b h1 => ?_, fun b h1 => ?_, Nat.le_succ _, Or.inr ?_, hN 10 (by decide), fun _ => hFN 10⟩, ?_⟩
    · unfold fl_grow
      rw [gd_t ⟨k, hM2⟩, q1, cs_none, gd_t (by rw [l]; rfl)]
    · refine ⟨hz, ?_, ?_, ?_, ?_, ?_, fun j hj => absurd hj (Nat.not_lt_zero _)⟩
      · show gK (aN S 25 10) (gZ S) = 25; rw [gK_aN, if_pos rfl]
      · show 2 ≤ gN (aN S 25 10) (gZ S); rw [gN_aN, if_pos rfl]; decide
      · show gN (aN S 25 10) (gZ S) ≤ M; rw [gN_aN, if_pos rfl]; exact hM2
      · show 0 < gN (aN S 25 10) (gZ S); rw [gN_aN, if_pos rfl]; decide
      · intro j _ y hy
        rw [gR_sR, if_neg (fun z => by omega), gR_aN, if_pos rfl] at hy
        cases hy
    · rw [gR_sR, if_pos ⟨rfl, rfl⟩]
    · funext j; rw [gI_sR, gI_aN, if_neg (by omega)]
    · funext j; rw [gR_sR, if_neg (fun z => h2 z.1), gR_aN, if_neg (by omega)]
    · funext j; show gJ (aN S 25 10) b j = _; rw [gJ_aN, if_neg (by omega)]
    · show gK (aN S 25 10) b = _; rw [gK_aN, if_neg (by omega)]
    · show gN (aN S 25 10) b = _; rw [gN_aN, if_neg (by omega)]
    · rw [gR_sR, if_pos ⟨rfl, rfl⟩]
    · rw [gI_sR, gI_aN, if_neg (by omega)]
  · have hd : d < gZ S := by
      rcases Nat.lt_or_ge d (gZ S) with h | h
      · exact h
      · have := hfr d h; omega
    by_cases cl : xs.length = gN S d
    · left
      have hgN : gN S d + gN S d / 2 ≤ M := by rw [← cl]; exact hg
      have haC : hC S → hC (aC S d (gN S d + gN S d / 2)) := fun h => hC_sRf (hC_aN h _ _) (κ := 25) (by rw [gK_aN, if_pos rfl]) (by decide)
      refine ⟨gZ S, sR (aC S d (gN S d + gN S d / 2)) c 1 (some (gZ S)), ?_, ?_, ?_, ?_, rfl, ⟨fun b h1 h2 => ?_, fun b h1 h2 h3 => ?_, fun b h1 => ?_, fun b h1 => ?_, fun b h1 => ?_, Nat.le_succ _, Or.inr ?_, fun h => ?_, fun _ => hFN _⟩, ?_⟩
      · rw [q1, l]; show nI xs.length = nI (gN S d); rw [cl]
      · unfold fl_grow
        rw [gd_t ⟨k, hM2⟩, q1, cs_some, gd_t ⟨q3, q4, hgN, hM, by rw [l, cl], q7⟩]
      · have hgz : ∀ j, gR (sR (aC S d (gN S d + gN S d / 2)) c 1 (some (gZ S))) (gZ S) j = if j < gN S d then gR S d j else none := by
          intro j
          rw [gR_sR, if_neg (fun z => by omega)]
          unfold aC
          rw [gR_sRf, if_pos rfl]
        refine ⟨hz, ?_, ?_, ?_, ?_, ?_, fun j hj => ?_⟩
        · show gK (aN S 25 (gN S d + gN S d / 2)) (gZ S) = 25; rw [gK_aN, if_pos rfl]
        · show 2 ≤ gN (aN S 25 (gN S d + gN S d / 2)) (gZ S); rw [gN_aN, if_pos rfl]; omega
        · show gN (aN S 25 (gN S d + gN S d / 2)) (gZ S) ≤ M; rw [gN_aN, if_pos rfl]; exact hgN
        · show xs.length < gN (aN S 25 (gN S d + gN S d / 2)) (gZ S); rw [gN_aN, if_pos rfl]; omega
        · intro j _ y hy
          rw [hgz] at hy
          split at hy
          · rename_i hj
            have h3 := q7 j hj y hy
            have hy : y ≠ gZ S := by intro z; rw [z] at h3; omega
            show gK (aN S 25 (gN S d + gN S d / 2)) y = 1 ∨ gK (aN S 25 (gN S d + gN S d / 2)) y = 3 ∨ gK (aN S 25 (gN S d + gN S d / 2)) y = 4
            rw [gK_aN, if_neg hy]; exact h3
          · cases hy
        · rw [hgz, if_pos (by omega)]; exact q8 j hj
      · rw [gR_sR, if_pos ⟨rfl, rfl⟩]
      · funext j; show gI (aN S 25 (gN S d + gN S d / 2)) b j = _; rw [gI_aN, if_neg (by omega)]
      · funext j
        rw [gR_sR, if_neg (fun z => h2 z.1)]
        unfold aC
        rw [gR_sRf, if_neg (by omega), gR_aN, if_neg (by omega)]
      · funext j; show gJ (aN S 25 (gN S d + gN S d / 2)) b j = _; rw [gJ_aN, if_neg (by omega)]
      · show gK (aN S 25 (gN S d + gN S d / 2)) b = _; rw [gK_aN, if_neg (by omega)]
      · show gN (aN S 25 (gN S d + gN S d / 2)) b = _; rw [gN_aN, if_neg (by omega)]
      · rw [gR_sR, if_pos ⟨rfl, rfl⟩]
      · exact hC_sR (haC h) (κ := 0) (by show gK (aN S 25 (gN S d + gN S d / 2)) c = 0; rw [gK_aN, if_neg (by omega)]; exact k) (by decide)
      · show gI (aN S 25 (gN S d + gN S d / 2)) c 2 = _; rw [gI_aN, if_neg (by omega)]
    · right
      refine ⟨d, ?_, q1, q2, q3, q4, q5, by omega, q7, q8⟩
      rw [q1, l]
      show ¬ nI xs.length = nI (gN S d)
      rw [n_eq (by omega) (by omega)]
      exact cl
theorem FA_sI {c k : Nat} {v : Int32} {S : HS} : FA c S (sI S c k v) := ⟨fun b _ h => sI_ne h, fun _ _ _ _ => rfl, fun _ _ => rfl, fun _ _ => rfl, fun _ _ => rfl, Nat.le_refl _, Or.inl rfl, fun h => hC_sI h, fun h => h⟩
/-- what fl_ins and fl_st leave, behind growing or not -/
theorem FA_st {c z : Nat} {S S1 S2 : HS} (h : FA c S S1) (hz : z = gZ S ∨ gR S c 1 = some z) (hI : ∀ b, b ≠ c → gI S2 b = gI S1 b) (hR : ∀ b, b ≠ z → gR S2 b = gR S1 b) (hJ : gJ S2 = gJ S1) (hK : gK S2 = gK S1) (hN : gN S2 = gN S1) (hZ : gZ S2 = gZ S1) (hc : c ≠ z) (kz : gK S1 z = 25) : FA c S S2 := by
  obtain ⟨f1, f2, f3, f4, f5, f6, f7, f8, f9⟩ := h
  refine ⟨fun b h1 h2 => (hI b h2).trans (f1 b h1 h2), fun b h1 h2 h3 => ?_, fun b h1 => by rw [hJ]; exact f3 b h1, fun b h1 => by rw [hK]; exact f4 b h1, fun b h1 => by rw [hN]; exact f5 b h1, by rw [hZ]; exact f6, by rw [hR c hc]; exact f7, fun h => ?_, fun h => ?_⟩
  · have : b ≠ z := by
      rcases hz with rfl | hz
      · omega
      · intro q; rw [q] at h3; exact h3 hz
    exact (hR b this).trans (f2 b h1 h2 h3)
  · obtain ⟨g1, g2, g3, g4, g5⟩ := f8 h
    refine ⟨by rw [hZ]; exact g1, by rw [hK]; exact g2, by rw [hN]; exact g3, fun q hq => ?_, by rw [hK]; exact g5⟩
    have : q.1 ≠ z := by
      intro z1
      obtain ⟨h1, h2⟩ := RCl_k q hq
      have h3 := g2 q.1 h1
      rw [z1, kz] at h3
      rw [z1] at h2
      omega
    rw [hR _ this]; exact g4 q hq
  · intro b hb
    rw [hK]
    exact f9 h b (by rw [← hZ]; exact hb)
theorem addAt_J {S : HS} {c e M i : Nat} {xs : List Nat} (hJ : JG S c M xs) (he : kEl S e) (hM : M ≤ 10000) (hM2 : 10 ≤ M) (hg : xs.length + xs.length / 2 ≤ M) (hc : c < gZ S) (hz : 65 ≤ gZ S) (hfr : hFr S) (hi : i ≤ xs.length) : ∃ S', fl_addAt c (nI i) e M S = some S' ∧ JG S' c M (insL xs i e) ∧ FA c S S' := by
  have k := hJ.1
  have l := hJ.2.1
  have hJ1 : JG (sI S c 0 (gI S c 0 + 1)) c M xs := ⟨k, by rw [sI_nk (by decide)]; exact l, hJ.2.2⟩
  have he1 : ∀ S1, FA c (sI S c 0 (gI S c 0 + 1)) S1 → kEl S1 e := fun S1 h => by
    have : e < gZ S := by
      rcases Nat.lt_or_ge e (gZ S) with q | q
      · exact q
      · have := hfr e q; unfold kEl at he; omega
    unfold kEl
    rw [h.2.2.2.1 e this]; exact he
  unfold fl_addAt fl_addAt3
  rw [gd_t ⟨k, n_ge0 (by omega), by rw [l, n_le (by omega) (by omega)]; exact hi⟩]
  rcases grow_J hJ1 hM hM2 hg hc hz hfr with ⟨z, S1, g1, g2, g3, g4, g5, g6, g7⟩ | ⟨z, g1, g2, g3⟩
  · rw [cd_t g1, g2, bn2_s, hJ1.2.1]
    obtain ⟨S2, s1, s2, s3, s4, s5, s6, s7, s8⟩ := ins_J (c := c) (e := e) (i := i) (by rw [g6.2.2.2.1 c hc]; exact k) (he1 S1 g6) g3 (by omega) hi g4
    have hcz : c ≠ z := by intro q; rw [q, g5] at hc; exact absurd hc (Nat.lt_irrefl _)
    refine ⟨S2, s1, s2, ?_⟩
    have := FA_st (S := sI S c 0 (gI S c 0 + 1)) g6 (Or.inl g5) s3 s4 s5 s6 s7 s8 hcz g3.2.1
    obtain ⟨f1, f2, f3, f4, f5, f6, f7, f8, f9⟩ := this
    exact ⟨fun b h1 h2 => (f1 b h1 h2).trans (sI_ne h2), f2, f3, f4, f5, f6, f7, f8, f9⟩
  · rw [cd_f g1, g2, bn_s, gd_t g3.2.1, hJ1.2.1]
    obtain ⟨S2, s1, s2, s3, s4, s5, s6, s7, s8⟩ := ins_J (S := sI S c 0 (gI S c 0 + 1)) (c := c) (e := e) (i := i) k he g3 (by omega) hi g2
    have hcz : c ≠ z := by intro q; rw [q] at k; have := g3.2.1; rw [show gK (sI S c 0 (gI S c 0 + 1)) z = gK S z from rfl, k] at this; cases this
    refine ⟨S2, s1, s2, ?_⟩
    have := FA_st (S := sI S c 0 (gI S c 0 + 1)) (S1 := sI S c 0 (gI S c 0 + 1)) ⟨fun _ _ _ => rfl, fun _ _ _ _ => rfl, fun _ _ => rfl, fun _ _ => rfl, fun _ _ => rfl, Nat.le_refl _, Or.inl rfl, fun h => h, fun h => h⟩ (Or.inr g2) s3 s4 s5 s6 s7 s8 hcz g3.2.1
    obtain ⟨f1, f2, f3, f4, f5, f6, f7, f8, f9⟩ := this
    exact ⟨fun b h1 h2 => (f1 b h1 h2).trans (sI_ne h2), f2, f3, f4, f5, f6, f7, f8, f9⟩
theorem add_J {S : HS} {c e M : Nat} {xs : List Nat} (hJ : JG S c M xs) (he : kEl S e) (hM : M ≤ 10000) (hM2 : 10 ≤ M) (hg : xs.length + xs.length / 2 ≤ M) (hc : c < gZ S) (hz : 65 ≤ gZ S) (hfr : hFr S) : ∃ S', fl_add c e M S = some S' ∧ JG S' c M (xs ++ [e]) ∧ FA c S S' := by
  have k := hJ.1
  have l := hJ.2.1
  have hJ1 : JG (sI S c 0 (gI S c 0 + 1)) c M xs := ⟨k, by rw [sI_nk (by decide)]; exact l, hJ.2.2⟩
  have he1 : ∀ S1, FA c (sI S c 0 (gI S c 0 + 1)) S1 → kEl S1 e := fun S1 h => by
    have : e < gZ S := by
      rcases Nat.lt_or_ge e (gZ S) with q | q
      · exact q
      · have := hfr e q; unfold kEl at he; omega
    unfold kEl
    rw [h.2.2.2.1 e this]; exact he
  unfold fl_add fl_add3
  rw [gd_t k]
  rcases grow_J hJ1 hM hM2 hg hc hz hfr with ⟨z, S1, g1, g2, g3, g4, g5, g6, g7⟩ | ⟨z, g1, g2, g3⟩
  · rw [cd_t g1, g2, bn2_s, hJ1.2.1]
    obtain ⟨S2, s1, s2, s3, s4, s5, s6, s7, s8⟩ := st_J (c := c) (e := e) (by rw [g6.2.2.2.1 c hc]; exact k) (he1 S1 g6) g3 (by omega) g4
    have hcz : c ≠ z := by intro q; rw [q, g5] at hc; exact absurd hc (Nat.lt_irrefl _)
    refine ⟨S2, s1, s2, ?_⟩
    have := FA_st (S := sI S c 0 (gI S c 0 + 1)) g6 (Or.inl g5) s3 s4 s5 s6 s7 s8 hcz g3.2.1
    obtain ⟨f1, f2, f3, f4, f5, f6, f7, f8, f9⟩ := this
    exact ⟨fun b h1 h2 => (f1 b h1 h2).trans (sI_ne h2), f2, f3, f4, f5, f6, f7, f8, f9⟩
  · rw [cd_f g1, g2, bn_s, gd_t g3.2.1, hJ1.2.1]
    obtain ⟨S2, s1, s2, s3, s4, s5, s6, s7, s8⟩ := st_J (S := sI S c 0 (gI S c 0 + 1)) (c := c) (e := e) k he g3 (by omega) g2
    have hcz : c ≠ z := by intro q; rw [q] at k; have := g3.2.1; rw [show gK (sI S c 0 (gI S c 0 + 1)) z = gK S z from rfl, k] at this; cases this
    refine ⟨S2, s1, s2, ?_⟩
    have := FA_st (S := sI S c 0 (gI S c 0 + 1)) (S1 := sI S c 0 (gI S c 0 + 1)) ⟨fun _ _ _ => rfl, fun _ _ _ _ => rfl, fun _ _ => rfl, fun _ _ => rfl, fun _ _ => rfl, Nat.le_refl _, Or.inl rfl, fun h => h, fun h => h⟩ (Or.inr g2) s3 s4 s5 s6 s7 s8 hcz g3.2.1
    obtain ⟨f1, f2, f3, f4, f5, f6, f7, f8, f9⟩ := this
    exact ⟨fun b h1 h2 => (f1 b h1 h2).trans (sI_ne h2), f2, f3, f4, f5, f6, f7, f8, f9⟩
