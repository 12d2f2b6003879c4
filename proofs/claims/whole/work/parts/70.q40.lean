/-! agreements, in their order -/
theorem lns_mem {D : HS} {a : Nat} {q : Nat × Nat} (h : q ∈ lns D a) : q.1 = a ∧ qL D a ≤ q.2 ∧ q.2 < qL D (a + 1) := by
  unfold lns at h
  obtain ⟨i, h1, h2⟩ := List.mem_map.mp h
  have := List.mem_range.mp h1
  rw [← h2]
  exact ⟨rfl, by show qL D a ≤ qL D a + i; omega, by show qL D a + i < qL D (a + 1); omega⟩
theorem wl_two {D : HS} {day : Nat} {K : Int32} {k : Nat} : ∀ (qs : List (Nat × Nat)), (∀ w, qs.foldl (wLast D day K k) w = w) ∨ (∃ e ∈ qs, ∀ w, qs.foldl (wLast D day K k) w = some e) := by
  intro qs
  induction qs with
  | nil => exact Or.inl (fun w => rfl)
  | cons q qs ih =>
    rcases ih with ih | ⟨e, he, ih⟩
    · by_cases c : qK D q.2 = k ∧ gI D 2 q.1 ≤ K ∧ qF D q.1 ≤ day
      · exact Or.inr ⟨q, List.mem_cons_self .., fun w => by rw [List.foldl_cons, ih]; unfold wLast; rw [if_pos c]⟩
      · exact Or.inl (fun w => by rw [List.foldl_cons, ih]; unfold wLast; rw [if_neg c])
    · exact Or.inr ⟨e, List.mem_cons_of_mem _ he, fun w => by rw [List.foldl_cons, ih]⟩
theorem wm_one1 {D : HS} {day : Nat} {K : Int32} {k fr : Nat} : ∀ (qs : List (Nat × Nat)) (w : Option (Nat × Nat)), (∀ q ∈ qs, qF D q.1 = fr) → (∀ b, w = some b → qF D b.1 ≤ fr) → qs.foldl (wMax D day K k) w = qs.foldl (wLast D day K k) w := by
  intro qs
  induction qs with
  | nil => intro w _ _; rfl
  | cons q qs ih =>
    intro w h1 h2
    have hq := h1 q (List.mem_cons_self ..)
    rw [List.foldl_cons, List.foldl_cons]
    have e : wMax D day K k w q = wLast D day K k w q := by
      unfold wMax wLast
      by_cases c : qK D q.2 = k ∧ gI D 2 q.1 ≤ K ∧ qF D q.1 ≤ day
      · rw [if_pos c, if_pos c]
        cases w with
        | none => rfl
        | some b => exact if_pos (by have := h2 b rfl; omega)
      · rw [if_neg c, if_neg c]
    rw [e]
    refine ih _ (fun p hp => h1 p (List.mem_cons_of_mem _ hp)) (fun b hb => ?_)
    unfold wLast at hb
    by_cases c : qK D q.2 = k ∧ gI D 2 q.1 ≤ K ∧ qF D q.1 ≤ day
    · rw [if_pos c] at hb; injection hb with hb; rw [← hb]; omega
    · rw [if_neg c] at hb; exact h2 b hb
theorem wm_two1 {D : HS} {day : Nat} {K : Int32} {k fr : Nat} {b : Nat × Nat} (hb : fr < qF D b.1) : ∀ (qs : List (Nat × Nat)), (∀ q ∈ qs, qF D q.1 = fr) → qs.foldl (wMax D day K k) (some b) = some b := by
  intro qs
  induction qs with
  | nil => intro _; rfl
  | cons q qs ih =>
    intro h1
    have hq := h1 q (List.mem_cons_self ..)
    have e : wMax D day K k (some b) q = some b := by
      unfold wMax
      by_cases c : qK D q.2 = k ∧ gI D 2 q.1 ≤ K ∧ qF D q.1 ≤ day
      · rw [if_pos c]; exact if_neg (by omega)
      · rw [if_neg c]
    rw [List.foldl_cons, e]
    exact ih (fun p hp => h1 p (List.mem_cons_of_mem _ hp))
theorem wl_old {D D' : HS} {day : Nat} {K : Int32} {k : Nat} : ∀ (qs : List (Nat × Nat)) (w : Option (Nat × Nat)), (∀ q ∈ qs, qF D' q.1 = qF D q.1 ∧ gI D' 2 q.1 = gI D 2 q.1 ∧ qK D' q.2 = qK D q.2) → qs.foldl (wLast D' day K k) w = qs.foldl (wLast D day K k) w := by
  intro qs
  induction qs with
  | nil => intro w _; rw [List.foldl_nil, List.foldl_nil]
  | cons q qs ih =>
    intro w h
    obtain ⟨h1, h2, h3⟩ := h q (List.mem_cons_self ..)
    have hc : (qK D' q.2 = k ∧ gI D' 2 q.1 ≤ K ∧ qF D' q.1 ≤ day) ↔ (qK D q.2 = k ∧ gI D 2 q.1 ≤ K ∧ qF D q.1 ≤ day) := by rw [h1, h2, h3]
    have e : wLast D' day K k w q = wLast D day K k w q := by
      unfold wLast
      by_cases c : qK D q.2 = k ∧ gI D 2 q.1 ≤ K ∧ qF D q.1 ≤ day
      · rw [if_pos c, if_pos (hc.mpr c)]
      · rw [if_neg c, if_neg (fun z => c (hc.mp z))]
    rw [List.foldl_cons, List.foldl_cons, e]
    exact ih _ (fun p hp => h p (List.mem_cons_of_mem _ hp))
theorem wm_old {D D' : HS} {day : Nat} {K : Int32} {k : Nat} : ∀ (qs : List (Nat × Nat)) (w : Option (Nat × Nat)), (∀ q ∈ qs, qF D' q.1 = qF D q.1 ∧ gI D' 2 q.1 = gI D 2 q.1 ∧ qK D' q.2 = qK D q.2) → (∀ b, w = some b → qF D' b.1 = qF D b.1) → qs.foldl (wMax D' day K k) w = qs.foldl (wMax D day K k) w := by
  intro qs
  induction qs with
  | nil => intro w _ _; rw [List.foldl_nil, List.foldl_nil]
  | cons q qs ih =>
    intro w h hw
    obtain ⟨h1, h2, h3⟩ := h q (List.mem_cons_self ..)
    have e : wMax D' day K k w q = wMax D day K k w q := by
      have hc : (qK D' q.2 = k ∧ gI D' 2 q.1 ≤ K ∧ qF D' q.1 ≤ day) ↔ (qK D q.2 = k ∧ gI D 2 q.1 ≤ K ∧ qF D q.1 ≤ day) := by rw [h1, h2, h3]
      unfold wMax
      by_cases c : qK D q.2 = k ∧ gI D 2 q.1 ≤ K ∧ qF D q.1 ≤ day
      · rw [if_pos c, if_pos (hc.mpr c)]
        cases w with
        | none => rfl
        | some b =>
          show (if qF D' b.1 ≤ qF D' q.1 then some q else some b) = (if qF D b.1 ≤ qF D q.1 then some q else some b)
          have hw := hw b rfl
          by_cases c2 : qF D b.1 ≤ qF D q.1
          · rw [if_pos c2, if_pos (by omega)]
          · rw [if_neg c2, if_neg (by omega)]
      · rw [if_neg c, if_neg (fun z => c (hc.mp z))]
    rw [List.foldl_cons, List.foldl_cons, e]
    refine ih _ (fun p hp => h p (List.mem_cons_of_mem _ hp)) (fun b hb => ?_)
    unfold wMax at hb
    by_cases c : qK D q.2 = k ∧ gI D 2 q.1 ≤ K ∧ qF D q.1 ≤ day
    · rw [if_pos c] at hb
      cases w with
      | none => injection hb with hb; rw [← hb]; exact h1
      | some b' =>
        by_cases c2 : qF D b'.1 ≤ qF D q.1
        · have hb : (if qF D b'.1 ≤ qF D q.1 then some q else some b') = some b := hb
          rw [if_pos c2] at hb; injection hb with hb; rw [← hb]; exact h1
        · have hb : (if qF D b'.1 ≤ qF D q.1 then some q else some b') = some b := hb
          rw [if_neg c2] at hb; exact hw b hb
    · rw [if_neg c] at hb; exact hw b hb
theorem qL_up {D : HS} (hd : DOK D) : ∀ (i a : Nat), a + i ≤ qA D → qL D a ≤ qL D (a + i) := by
  intro i
  induction i with
  | zero => intro a _; exact Nat.le_refl _
  | succ i ih =>
    intro a h
    have h1 := ih a (by omega)
    have h2 := (hd.2.2.2.2.2.2.1 (a + i) (by omega)).1
    exact Nat.le_trans h1 h2
theorem ORel_agree {D D' : HS} {LA NL : List Nat} {a fr : Nat} (h : ORel D LA NL) (hd : DOK D) (ha : qA D = a) (ha' : qA D' = a + 1) (hF : ∀ j, j < a → qF D' j = qF D j) (hFa : qF D' a = fr) (hL : ∀ j, j ≤ a → qL D' j = qL D j) (hK : ∀ n, n < qL D a → qK D' n = qK D n) (h2 : ∀ j, j < a → gI D' 2 j = gI D 2 j) (hN : gI D' 0 34 = gI D 0 34) (h17 : gI D' 17 = gI D 17) : ORel D' (insL LA (cLt (qF D) LA (fr + 1)) a) NL := by
  obtain ⟨o1, o2, o3, o4, o5, o6⟩ := h
  have hs := srt (f := qF D) (d := fr + 1) LA o2
  have hmem : ∀ b ∈ LA, b < a := fun b hb => by have := List.mem_range.mp (o1.mem_iff.mp hb); omega
  have htd : LA.take (cLt (qF D) LA (fr + 1)) ++ LA.drop (cLt (qF D) LA (fr + 1)) = LA := List.take_append_drop _ _
  have ht : ∀ b ∈ LA.take (cLt (qF D) LA (fr + 1)), b ∈ LA ∧ qF D b ≤ fr := fun b hb => by
    rw [hs.2] at hb
    obtain ⟨z1, z2⟩ := List.mem_filter.mp hb
    have z2 : qF D b < fr + 1 := by simpa using z2
    exact ⟨z1, by omega⟩
  have hdr : ∀ b ∈ LA.drop (cLt (qF D) LA (fr + 1)), b ∈ LA ∧ fr + 1 ≤ qF D b := fun b hb => by
    rw [hs.1] at hb
    obtain ⟨z1, z2⟩ := List.mem_filter.mp hb
    exact ⟨z1, by simpa using z2⟩
  generalize hT : LA.take (cLt (qF D) LA (fr + 1)) = T at *
  generalize hD : LA.drop (cLt (qF D) LA (fr + 1)) = E at *
  unfold insL
  rw [hT, hD]
  have qn : qN D' = qN D := by unfold qN; rw [hN]
  have hln : ∀ j, j < a → lns D' j = lns D j := fun j hj => by unfold lns; rw [hL j (by omega), hL (j + 1) (by omega)]
  have hflat : ∀ l : List Nat, (∀ b ∈ l, b < a) → l.flatMap (lns D') = l.flatMap (lns D) := by
    intro l
    induction l with
    | nil => intro _; rw [List.flatMap_nil, List.flatMap_nil]
    | cons b l ih =>
      intro hl
      rw [List.flatMap_cons, List.flatMap_cons, hln b (hl b (List.mem_cons_self ..)), ih (fun c hc => hl c (List.mem_cons_of_mem _ hc))]
  have hold : ∀ l : List Nat, (∀ b ∈ l, b < a) → ∀ q ∈ l.flatMap (lns D), q.1 ∈ l ∧ qF D' q.1 = qF D q.1 ∧ gI D' 2 q.1 = gI D 2 q.1 ∧ qK D' q.2 = qK D q.2 := by
    intro l hl q hq
    obtain ⟨b, hb, hq⟩ := List.mem_flatMap.mp hq
    obtain ⟨q1, q2, q3⟩ := lns_mem hq
    have lb := hl b hb
    have hup := qL_up hd (a - (b + 1)) (b + 1) (by omega)
    rw [show b + 1 + (a - (b + 1)) = a by omega] at hup
    rw [q1]
    exact ⟨hb, hF b lb, h2 b lb, hK q.2 (by omega)⟩
  have hTm : ∀ b ∈ T, b < a := fun b hb => hmem b (ht b hb).1
  have hEm : ∀ b ∈ E, b < a := fun b hb => hmem b (hdr b hb).1
  refine ⟨?_, ?_, fun day K k => ?_, by rw [qn]; exact o4, ?_, fun d => ?_⟩
  · rw [ha', List.range_succ]
    refine List.perm_middle.trans ?_
    rw [htd]
    refine (List.Perm.cons a o1).trans ?_
    rw [ha]
    exact (List.perm_append_singleton a (List.range a)).symm
  · have hp : (T ++ E).Pairwise (fun x y => qF D x ≤ qF D y) := by rw [htd]; exact o2
    rw [List.pairwise_append] at hp
    rw [List.pairwise_append, List.pairwise_cons]
    refine ⟨hp.1.imp_of_mem (fun hx hy z => ?_), ⟨fun y hy => ?_, hp.2.1.imp_of_mem (fun hx hy z => ?_)⟩, fun x hx y hy => ?_⟩
    · rw [hF _ (hTm _ hx), hF _ (hTm _ hy)]; exact z
    · rw [hFa, hF _ (hEm _ hy)]; have := (hdr _ hy).2; omega
    · rw [hF _ (hEm _ hx), hF _ (hEm _ hy)]; exact z
    · rw [hF _ (hTm _ hx)]
      rcases List.mem_cons.mp hy with rfl | hy
      · rw [hFa]; exact (ht _ hx).2
      · rw [hF _ (hEm _ hy)]; have := (ht _ hx).2; have := (hdr _ hy).2; omega
  · have o3 := o3 day K k
    rw [← htd, List.flatMap_append, List.foldl_append] at o3
    have hw : wins D' day K k = (lns D' a).foldl (wMax D' day K k) (wins D day K k) := by
      unfold wins
      rw [ha', List.range_succ, List.flatMap_append, List.foldl_append, List.flatMap_cons, List.flatMap_nil, List.append_nil, hflat (List.range a) (fun b hb => List.mem_range.mp hb), ha]
      rw [wm_old (D := D) _ _ (fun q hq => (hold _ (fun b hb => List.mem_range.mp hb) q hq).2) (fun b hb => by cases hb)]
    have hnew : ∀ q ∈ lns D' a, qF D' q.1 = fr := fun q hq => by rw [(lns_mem hq).1]; exact hFa
    rw [hw, List.flatMap_append, List.flatMap_cons, List.foldl_append, List.foldl_append, hflat T hTm, hflat E hEm]
    rw [wl_old (D := D) (T.flatMap (lns D)) none (fun q hq => (hold T hTm q hq).2), wl_old (D := D) (E.flatMap (lns D)) _ (fun q hq => (hold E hEm q hq).2)]
    rcases wl_two (D := D) (day := day) (K := K) (k := k) (E.flatMap (lns D)) with hE | ⟨e, he, hE⟩
    · rw [hE] at o3
      rw [hE, o3]
      refine (wm_one1 _ _ hnew (fun b hb => ?_)).symm
      rcases wl_two (D := D) (day := day) (K := K) (k := k) (T.flatMap (lns D)) with hT2 | ⟨e, he, hT2⟩
      · rw [hT2] at o3; rw [← o3] at hb; cases hb
      · rw [hT2] at o3
        rw [← o3] at hb
        injection hb with hb
        obtain ⟨z1, z2, _⟩ := hold T hTm e he
        rw [← hb, z2]; exact (ht _ z1).2
    · rw [hE] at o3
      rw [hE, ← o3]
      obtain ⟨z1, z2, _⟩ := hold E hEm e he
      exact (wm_two1 (by rw [z2]; have := (hdr _ z1).2; omega) _ hnew).symm
  · refine o5.imp (fun z => ?_)
    rw [h17]; exact z
  · have o6 := o6 d
    rw [qn]
    refine Eq.trans (List.filter_congr (fun j _ => ?_)) (o6.trans (List.filter_congr (fun j _ => ?_)))
    · rw [h17]
    · rw [h17]
/-- the class's place of an agreement -/
theorem placeA_2 {S : HS} {LA : List Nat} {oA f : Nat → Nat} (hJ : JG S 4 80 (LA.map oA)) (ll : LA.length < 13) (hA : ∀ a ∈ LA, gK S (oA a) = 1 ∧ gI S (oA a) 1 = nI (f a) ∧ f a < 1200) {fr : Nat} (hf : fr < 1200) : ∀ (rest : List Nat) (i m : Nat), LA.drop i = rest → rest.length < m → i ≤ LA.length → fn_X8_placeOfAgreement_2 m (nI fr) (nI i) S = some (nI (i + (rest.takeWhile (fun k => decide (f k ≤ fr))).length), S) := by
  have hsz : fl_size 4 S = some (nI LA.length, S) := by
    rw [fz hJ.1, hJ.2.1, List.length_map]
  intro rest
  induction rest with
  | nil =>
    intro i m e hm hi
    obtain ⟨m, rfl⟩ : ∃ k, m = k + 1 := ⟨m - 1, by omega⟩
    have l := drop_n e
    have e : i = LA.length := by omega
    subst e
    conv => lhs; unfold fn_X8_placeOfAgreement_2
    rw [hsz, bn2_s, cd_t (Int32.le_refl _), hsz, bn2_s]
    rfl
  | cons k rest ih =>
    intro i m e hm hi
    obtain ⟨m, rfl⟩ : ∃ k, m = k + 1 := ⟨m - 1, by omega⟩
    obtain ⟨li, ea, e'⟩ := drop_c e
    have hk : k ∈ LA := by
      have := getD_mem li
      rw [ea] at this; exact this
    have hget : fl_get 4 (nI i) S = some (some (oA k), S) := by
      rw [JG_get hJ (by rw [List.length_map]; exact li) (by decide), getD_map li, ea]
    obtain ⟨b2, s2, l2⟩ := hA k hk
    rw [List.length_cons] at hm
    conv => lhs; unfold fn_X8_placeOfAgreement_2
    rw [hsz, bn2_s, cd_f (by rw [n_le (by omega) (by omega)]; omega), hget, bn2_s, bn_s, gd_t b2, gd_t b2, s2]
    by_cases c : f k ≤ fr
    · rw [cd_t (by rw [n_le (by omega) (by omega)]; exact c), bn_s, show nI i + 1 = nI (i + 1) by rw [n_lit, n_add], ih (i + 1) m e' (by omega) (by omega), List.takeWhile_cons_of_pos (by simpa using c), List.length_cons, show i + 1 + (rest.takeWhile (fun k => decide (f k ≤ fr))).length = i + ((rest.takeWhile (fun k => decide (f k ≤ fr))).length + 1) by omega]
    · rw [cd_f (by rw [n_le (by omega) (by omega)]; exact c), List.takeWhile_cons_of_neg (by simpa using c)]
      rfl
theorem placeA_C {S : HS} {LA : List Nat} {oA f : Nat → Nat} (hJ : JG S 4 80 (LA.map oA)) (ll : LA.length < 13) (hA : ∀ a ∈ LA, gK S (oA a) = 1 ∧ gI S (oA a) 1 = nI (f a) ∧ f a < 1200) (ho : LA.Pairwise (fun a b => f a ≤ f b)) {fr : Nat} (hf : fr < 1200) : fn_X8_placeOfAgreement (nI fr) S = some (nI (cLt f LA (fr + 1)), S) := by
  have := placeA_2 hJ ll hA hf LA 0 hFuel rfl (by unfold hFuel; omega) (Nat.zero_le _)
  rw [srt_tw2 (f := f) LA ho, Nat.zero_add] at this
  exact this
