/-! note -/
theorem srt_tw2 {f : Nat → Nat} {d : Nat} : ∀ l : List Nat, l.Pairwise (fun a b => f a ≤ f b) → (l.takeWhile (fun k => decide (f k ≤ d))).length = cLt f l (d + 1) := by
  intro l
  unfold cLt
  induction l with
  | nil => intro _; rfl
  | cons a l ih =>
    intro h
    rw [List.pairwise_cons] at h
    by_cases c : f a ≤ d
    · rw [List.takeWhile_cons_of_pos (by simpa using c), List.filter_cons_of_pos (by simp; omega), List.length_cons, List.length_cons, ih h.2]
    · rw [List.takeWhile_cons_of_neg (by simpa using c)]
      have : (a :: l).filter (fun k => decide (f k < d + 1)) = [] := List.filter_eq_nil_iff.mpr (fun b hb => by
        rcases List.mem_cons.mp hb with rfl | hb
        · simp; omega
        · have := h.1 b hb
          simp; omega)
      rw [this]
theorem placeN_2 {S D : HS} {LA NL : List Nat} {oA oL oN : Nat → Nat} (d : DRel S D LA NL oA oL oN) {fr : Nat} (hf : fr < 1200) : ∀ (rest : List Nat) (i m : Nat), NL.drop i = rest → rest.length < m → i ≤ NL.length → fn_X8_placeOfNote_2 m (nI fr) (nI i) S = some (nI (i + (rest.takeWhile (fun k => decide (nFr D k ≤ fr))).length), S) := by
  have hd := d.2.2.1
  have ln : qN D < 201 := (n_of_in hd.2.2.1).2
  obtain ⟨_, _, _, k5, s5, l5⟩ := sz_A d
  have hsz : fl_size 5 S = some (nI NL.length, S) := by
    rw [fz k5, s5, l5]; exact congrArg (fun x => some (x, S)) (n_of_in hd.2.2.1).1
  intro rest
  induction rest with
  | nil =>
    intro i m e hm hi
    obtain ⟨m, rfl⟩ : ∃ k, m = k + 1 := ⟨m - 1, by omega⟩
    have l := drop_n e
    have e : i = NL.length := by omega
    subst e
    conv => lhs; unfold fn_X8_placeOfNote_2
    rw [hsz, bn2_s, cd_t (Int32.le_refl _), hsz, bn2_s]
    rfl
  | cons k rest ih =>
    intro i m e hm hi
    obtain ⟨m, rfl⟩ : ∃ k, m = k + 1 := ⟨m - 1, by omega⟩
    obtain ⟨li, ea, e'⟩ := drop_c e
    have hk : k < qN D := by
      have := getD_mem li
      rw [ea] at this
      exact List.mem_range.mp (d.2.2.2.1.2.2.2.1.mem_iff.mp this)
    have hget : fl_get 5 (nI i) S = some (some (oN k), S) := by
      rw [JG_get d.2.2.2.2.2.1 (by rw [List.length_map]; exact li) (by decide), getD_map li, ea]
    obtain ⟨b1, b2, b3, b4, b5, b6, b7⟩ := d.2.2.2.2.2.2.2.2.2.1 k hk
    obtain ⟨n1, n2, n3, n4⟩ := hd.2.2.2.2.2.2.2.2.1 k hk
    have l17 : nFr D k < 1200 := (n_of_in n3).2
    have s2 : gI S (oN k) 2 = nI (nFr D k) := by rw [b5]; exact (n_of_in n3).1
    rw [List.length_cons] at hm
    conv => lhs; unfold fn_X8_placeOfNote_2
    rw [hsz, bn2_s, cd_f (by rw [n_le (by omega) (by omega)]; omega), hget, bn2_s, bn_s, gd_t b2, gd_t b2, s2]
    by_cases c : nFr D k ≤ fr
    · rw [cd_t (by rw [n_le (by omega) (by omega)]; exact c), bn_s, show nI i + 1 = nI (i + 1) by rw [n_lit, n_add], ih (i + 1) m e' (by omega) (by omega), List.takeWhile_cons_of_pos (by simpa using c), List.length_cons, show i + 1 + (rest.takeWhile (fun k => decide (nFr D k ≤ fr))).length = i + ((rest.takeWhile (fun k => decide (nFr D k ≤ fr))).length + 1) by omega]
    · rw [cd_f (by rw [n_le (by omega) (by omega)]; exact c), List.takeWhile_cons_of_neg (by simpa using c)]
      rfl
theorem placeN_C {S D : HS} {LA NL : List Nat} {oA oL oN : Nat → Nat} (d : DRel S D LA NL oA oL oN) {fr : Nat} (hf : fr < 1200) : fn_X8_placeOfNote (nI fr) S = some (nI (cLt (nFr D) NL (fr + 1)), S) := by
  have ln : qN D < 201 := (n_of_in d.2.2.1.2.2.1).2
  have l5 := (sz_A d).2.2.2.2.2
  have := placeN_2 d hf NL 0 hFuel rfl (by unfold hFuel; omega) (Nat.zero_le _)
  rw [srt_tw2 (f := nFr D) NL d.2.2.2.1.2.2.2.2.1, Nat.zero_add] at this
  exact this
/-- a note is told: both sides -/
theorem DRel_note {SC SM S' M' : HS} {LA NL : List Nat} {oA oL oN : Nat → Nat} {k fr o : Nat} (d : DRel SC SM LA NL oA oL oN) (hk : qN SM = k) (lk : k < 200) (kM : ∀ c, 2 ≤ c → c < 15 → gI M' c = gI SM c) (e7 : gI M' 0 7 = gI SM 0 7) (e28 : gI M' 0 28 = gI SM 0 28) (e34 : gI M' 0 34 = nI (k + 1)) (kN : ∀ c j, 15 ≤ c → c < 20 → j ≠ k → gI M' c j = gI SM c j) (hNk : NOK M' k) (hf : gI M' 17 k = nI fr) (lf : fr < 1200)
    (hC' : hC S') (hFr' : hFr S') (hx : EX SC S') (i0 : gI S' 0 = gI SC 0) (i6 : gI S' 6 = gI SC 6) (i4 : gI S' 4 = gI SC 4) (r4 : gR S' 4 = gR SC 4) (hx4 : ∀ d, gR SC 4 1 = some d → gR S' d = gR SC d) (n5 : ∀ d, gR S' 5 1 = some d → gR SC 5 1 = some d ∨ gZ SC ≤ d) (hJ : JG S' 5 300 (insL (NL.map oN) (cLt (nFr SM) NL (fr + 1)) o)) (hO : NRel S' M' o k) : DRel S' M' LA (insL NL (cLt (nFr SM) NL (fr + 1)) k) oA oL (up1 oN k o) := by
  obtain ⟨a1, a2, a3, a4, a5, a6, a7, a8, a9, a10, a12, a13⟩ := d
  have k4 := fun d hd => (JG_k a5 d hd).1
  have k5 := fun d hd => (JG_k a6 d hd).1
  have n4 : ∀ d, gR S' 4 1 = some d → gR SC 4 1 = some d ∨ gZ SC ≤ d := fun d hd => Or.inl (by rw [← r4]; exact hd)
  have qn' : qN M' = k + 1 := by unfold qN; rw [e34, n_cl (by omega)]
  have qp' : qP M' = qP SM := by unfold qP; rw [e28]
  have hmem : ∀ a ∈ NL, a ≠ k := fun a ha => by have := List.mem_range.mp (a4.2.2.2.1.mem_iff.mp ha); omega
  have eA : ARel S' M' = ARel S' SM := by funext x y z; exact congrFun (congrFun (congrFun (ARel_M (fun c h1 h2 => kM c h1 (by omega))) x) y) z
  have eL : LRel S' M' = LRel S' SM := LRel_M (fun c h1 h2 => kM c h1 (by omega))
  have qa : qA M' = qA SM := by unfold qA; rw [e7]
  have ql : qL M' = qL SM := by funext a; unfold qL; rw [kM 4 (by omega) (by omega)]
  have qk : qK M' = qK SM := by funext a; unfold qK; rw [kM 5 (by omega) (by omega)]
  have lo : LOK M' = LOK SM := by
    funext n
    unfold LOK
    simp only [qk, kM 5 (by omega) (by omega), kM 6 (by omega) (by omega), kM 7 (by omega) (by omega), kM 10 (by omega) (by omega), kM 11 (by omega) (by omega), kM 12 (by omega) (by omega), kM 13 (by omega) (by omega)]
  refine ⟨hC', hFr', ?_, ?_, ?_, ?_, fun d hd z => ?_, fun a ha => ?_, fun n hn => ?_, fun j hj => ?_, ?_, ?_⟩
  · obtain ⟨b1, b2, b3, b4, b5, b6, b7, b8, b9, b10⟩ := a3
    unfold DOK
    rw [qa, ql, lo, e7, e28, qn', e34, kM 3 (by omega) (by omega), kM 4 (by omega) (by omega), kM 14 (by omega) (by omega)]
    refine ⟨b1, b2, (n_in (by omega)).mpr (by omega), b4, b5, b6, b7, b8, fun j hj => ?_, b10⟩
    by_cases c : j = k
    · rw [c]; exact hNk
    · have := b9 j (by omega)
      unfold NOK at *
      rw [qp', kN 15 j (by omega) (by omega) c, kN 16 j (by omega) (by omega) c, kN 17 j (by omega) (by omega) c, kN 19 j (by omega) (by omega) c]
      exact this
  · exact ORel_note a4 (fun c h1 h2 => kM c h1 (by omega)) e7 hk qn' (fun j hj => by unfold nFr; rw [kN 17 j (by omega) (by omega) (by omega)]) (by unfold nFr; rw [hf, n_cl (by omega)])
  · refine JG_ext a2 a5 (by rw [(hx 4 (lt_Z a2 a5.1 (by decide))).1]; exact a5.1) (by rw [i4]) (by rw [r4]) (fun b hb => ⟨(hx b hb).1, (hx b hb).2.1⟩) hx4
  · have : (insL NL (cLt (nFr SM) NL (fr + 1)) k).map (up1 oN k o) = insL (NL.map oN) (cLt (nFr SM) NL (fr + 1)) o := by
      unfold insL
      rw [List.map_append, List.map_cons, up1_eq, List.map_take, List.map_drop]
      have e : NL.map (up1 oN k o) = NL.map oN := List.map_congr_left (fun a ha => up1_ne (hmem a ha))
      rw [e]
    rw [this]; exact hJ
  · rw [r4] at hd
    rcases n5 d z with q | q
    · exact a7 d hd q
    · have := lt_Z a2 (k4 d hd) (by decide); omega
  · rw [qa] at ha
    rw [eA]
    exact ARel_ext a2 k4 k5 n4 n5 hx (a8 a ha)
  · rw [qa, ql] at hn
    rw [eL]
    exact LRel_ext a2 k4 k5 hx (a9 n hn)
  · rw [qn'] at hj
    by_cases c : j = k
    · rw [c, up1_eq]; exact hO
    · rw [up1_ne c]
      have := NRel_ext (S' := S') a2 hx (a10 j (by omega))
      unfold NRel at *
      rw [kN 15 j (by omega) (by omega) c, kN 16 j (by omega) (by omega) c, kN 17 j (by omega) (by omega) c, kN 18 j (by omega) (by omega) c, kN 19 j (by omega) (by omega) c]
      exact this
  · rw [i0, e28]; exact a12
  · intro p hp
    rw [i6, kM 14 (by omega) (by omega)]; exact a13 p hp
theorem note_no {SM : HS} {x1 x2 x3 x4 : Int32} (h : x1 < 0 ∨ gI SM 0 28 ≤ x1 ∨ x2 < 0 ∨ 8 < x2 ∨ x3 < 0 ∨ 1200 ≤ x3) : fn_X9_note x1 x2 x3 x4 SM = some (-1, sI SM 0 0 0) := by
  have e28 : gI (sI SM 0 0 0) 0 28 = gI SM 0 28 := sI_nk (by decide)
  unfold fn_X9_note fn_X9_note_57
  rw [bn_s, e28]
  by_cases c1 : x1 < 0
  · exact cd_t c1
  rw [cd_f c1]
  by_cases c2 : gI SM 0 28 ≤ x1
  · exact cd_t c2
  rw [cd_f c2]
  by_cases c3 : x2 < 0
  · exact cd_t c3
  rw [cd_f c3]
  by_cases c4 : 8 < x2
  · exact cd_t c4
  rw [cd_f c4]
  by_cases c5 : x3 < 0
  · exact cd_t c5
  rw [cd_f c5]
  have c6 : 1200 ≤ x3 := by rcases h with h | h | h | h | h | h <;> first | exact absurd h ‹_› | exact h
  exact cd_t c6
theorem note_rd {SM : HS} {x1 x2 x3 x4 : Int32} (c1 : ¬ x1 < 0) (c2 : ¬ gI SM 0 28 ≤ x1) (c3 : ¬ x2 < 0) (c4 : ¬ 8 < x2) (c5 : ¬ x3 < 0) (c6 : ¬ 1200 ≤ x3) {k : Nat} (hk : gI SM 0 34 = nI k) (lk : k < 201) : (fn_X9_isValue x2 x4 (sI SM 0 0 0) = some (0, sI SM 0 0 0) → fn_X9_note x1 x2 x3 x4 SM = some (-1, sI SM 0 0 0)) ∧ (fn_X9_isValue x2 x4 (sI SM 0 0 0) = some (1, sI SM 0 0 0) → k = 200 → fn_X9_note x1 x2 x3 x4 SM = some (-1, sI SM 0 0 0)) ∧ (fn_X9_isValue x2 x4 (sI SM 0 0 0) = some (1, sI SM 0 0 0) → k < 200 → fn_X9_note x1 x2 x3 x4 SM = some (nI (k + 1), sI (sI (sI (sI (sI (sI (sI SM 0 0 0) 15 k x1) 16 k x2) 17 k x3) 18 k (gI SM 0 3)) 19 k x4) 0 34 (nI (k + 1)))) := by
  have e28 : gI (sI SM 0 0 0) 0 28 = gI SM 0 28 := sI_nk (by decide)
  have e34 : gI (sI SM 0 0 0) 0 34 = nI k := (sI_nk (by decide)).trans hk
  unfold fn_X9_note fn_X9_note_57
  rw [bn_s, e28, cd_f c1, cd_f c2, cd_f c3, cd_f c4, cd_f c5, cd_f c6]
  refine ⟨fun h => by rw [h, bn2_s, cd_t rfl], fun h hk2 => ?_, fun h hk2 => ?_⟩
  · rw [h, bn2_s, cd_f z10, e34, cd_t (by rw [hk2]; rfl)]
  · have f1 : vp_in (nI k) 200 := (n_in (by omega)).mpr hk2
    have f2 : (nI k).toNatClampNeg = k := n_cl (by omega)
    have f3 : nI k + 1 = nI (k + 1) := by rw [n_lit, n_add]
    have x15 : ∀ (S : HS) (j : Nat) (v : Int32), gI (sI S 15 j v) 0 34 = gI S 0 34 := fun S j v => by rw [sI_ne (by decide)]
    have x16 : ∀ (S : HS) (j : Nat) (v : Int32), gI (sI S 16 j v) 0 34 = gI S 0 34 := fun S j v => by rw [sI_ne (by decide)]
    have x17 : ∀ (S : HS) (j : Nat) (v : Int32), gI (sI S 17 j v) 0 34 = gI S 0 34 := fun S j v => by rw [sI_ne (by decide)]
    have x18 : ∀ (S : HS) (j : Nat) (v : Int32), gI (sI S 18 j v) 0 34 = gI S 0 34 := fun S j v => by rw [sI_ne (by decide)]
    have x19 : ∀ (S : HS) (j : Nat) (v : Int32), gI (sI S 19 j v) 0 34 = gI S 0 34 := fun S j v => by rw [sI_ne (by decide)]
    have e3 : gI (sI (sI (sI (sI SM 0 0 0) 15 k x1) 16 k x2) 17 k x3) 0 3 = gI SM 0 3 := rfl
    rw [h, bn2_s, cd_f z10, e34, cd_f (by rw [n_lit, n_eq (by omega) (by omega)]; omega)]
    simp only [x15, x16, x17, x18, x19, e34, f1, f2, f3, e3, gd_T, bn_s, sI_eq]
theorem m_note (x1 x2 x3 x4 : Int32) : LIi RR (fn_X8_note x1 x2 x3 x4) (fn_X9_note x1 x2 x3 x4) := by
  refine LIi_of (fun SC SM hr => ?_)
  have hr' := RR_t hr
  obtain ⟨e, LA, NL, oA, oL, oN, d⟩ := hr
  have hd := d.2.2.1
  have e16 := d.2.2.2.2.2.2.2.2.2.2.1
  have e34 : gI SM 0 34 = nI (qN SM) := (n_of_in hd.2.2.1).1
  have l34 : qN SM < 201 := (n_of_in hd.2.2.1).2
  have e28 : gI SM 0 28 = nI (qP SM) := (n_of_in hd.2.1).1
  have l28 : qP SM < 9 := (n_of_in hd.2.1).2
  have hP : (x1 < 0 ∨ gI SM 0 28 ≤ x1) → fn_X8_isPost x1 SC = some (0, SC) := by
    intro h
    unfold fn_X8_isPost fn_X8_isPost_16 fn_X8_isPost_17
    rw [e16]
    by_cases c : x1 < 0
    · rw [cd_t c]; exact gd0 _
    · rw [cd_f c, cd_t (h.resolve_left c)]; exact gd0 _
  unfold fn_X8_note fn_X8_note_37
  by_cases c1 : x1 < 0
  · exact ⟨_, _, _, by rw [hP (Or.inl c1), bn2_s, cd_t rfl], note_no (Or.inl c1), hr'⟩
  by_cases c2 : gI SM 0 28 ≤ x1
  · exact ⟨_, _, _, by rw [hP (Or.inr c2), bn2_s, cd_t rfl], note_no (Or.inr (Or.inl c2)), hr'⟩
  have hP1 : fn_X8_isPost x1 SC = some (1, SC) := by
    unfold fn_X8_isPost fn_X8_isPost_17
    rw [e16, cd_f c1, cd_f c2]; exact gd1 _
  rw [hP1, bn2_s, cd_f z10]
  by_cases c5 : x3 < 0
  · refine ⟨_, _, _, ?_, note_no (Or.inr (Or.inr (Or.inr (Or.inr (Or.inl c5))))), hr'⟩
    unfold fn_X8_isDay fn_X8_isDay_15 fn_X8_isDay_16
    rw [cd_t c5, gd0, bn2_s, cd_t rfl]
  by_cases c6 : 1200 ≤ x3
  · refine ⟨_, _, _, ?_, note_no (Or.inr (Or.inr (Or.inr (Or.inr (Or.inr c6))))), hr'⟩
    unfold fn_X8_isDay fn_X8_isDay_15 fn_X8_isDay_16
    rw [cd_f c5, cd_t c6, gd0, bn2_s, cd_t rfl]
  have hD1 : fn_X8_isDay x3 SC = some (1, SC) := by
    unfold fn_X8_isDay fn_X8_isDay_16
    rw [cd_f c5, cd_f c6]; exact gd1 _
  rw [hD1, bn2_s, cd_f z10]
  by_cases c3 : x2 < 0
  · refine ⟨_, _, _, ?_, note_no (Or.inr (Or.inr (Or.inl c3))), hr'⟩
    unfold fn_X8_canBecome fn_X8_canBecome_10
    rw [cd_t c3, bn2_s, cd_t rfl]
  by_cases c4 : 8 < x2
  · refine ⟨_, _, _, ?_, note_no (Or.inr (Or.inr (Or.inr (Or.inl c4)))), hr'⟩
    unfold fn_X8_canBecome fn_X8_canBecome_10
    rw [cd_f c3, cd_f (by
      rw [t_lt] at *
      have q1 : (8 : Int32).toInt = 8 := rfl
      have q2 : (9 : Int32).toInt = 9 := rfl
      omega), bn2_s, cd_t rfl]
  obtain ⟨w, lw, rfl⟩ := n_ex (n_lo (n := 9) c3 (by
      rw [t_le]
      rw [t_lt] at c4
      have q1 : (8 : Int32).toInt = 8 := rfl
      have q2 : (nI 9).toInt = 9 := rfl
      omega) (by decide))
  obtain ⟨r1, r2, r3⟩ := note_rd (x4 := x4) c1 c2 c3 c4 c5 c6 e34 l34
  obtain ⟨k4, s4, l4, k5, s5, l5⟩ := sz_A d
  have hsz : fl_size 5 SC = some (nI (qN SM), SC) := by rw [fz k5, s5, e34]
  rcases val_C lw x4 with ⟨v1, v2, v3⟩ | ⟨v2, v3⟩
  · rw [v2, bn2_s, cd_f z10, hsz, bn2_s]
    by_cases ck : qN SM = 200
    · exact ⟨_, _, _, cd_f (by rw [n_lit, n_lt (by omega) (by omega)]; omega), r2 (v3 _) ck, hr'⟩
    · have lk : qN SM < 200 := by omega
      have r3 := r3 (v3 _) lk
      obtain ⟨fr, lf, rfl⟩ := n_ex (n_lo (n := 1200) c5 c6 (by decide))
      have hx1 : vp_in x1 (qP SM) := n_lo c1 (by rw [e28] at c2; exact c2) (by omega)
      rw [cd_t (by rw [n_lit, n_lt (by omega) (by omega)]; exact lk), placeN_C d lf, bn2_s, bn_s]
      have hZ : 65 ≤ gZ SC := d.1.1
      have hfr := d.2.1
      generalize hk : qN SM = k at *
      generalize ho : gZ SC = o at *
      have e13 : gI (aN SC 4 0) 0 13 = gI SM 0 3 := by rw [gI_aN, if_neg (by omega)]; exact e.2.1
      have ko : gK (aN SC 4 0) o = 4 := by rw [gK_aN, if_pos ho.symm]
      have hin : fn_X3_init o x1 (nI w) (nI fr) (gI (aN SC 4 0) 0 13) x4 (aN SC 4 0) = some (sI (sI (sI (sI (sI (aN SC 4 0) o 0 x1) o 1 (nI w)) o 2 (nI fr)) o 3 (gI SM 0 3)) o 4 x4) := by
        unfold fn_X3_init
        rw [e13]
        simp only [gK_sI, ko, gd_T, bn_s]
      rw [hin, bn_s]
      generalize hS : sI (sI (sI (sI (sI (aN SC 4 0) o 0 x1) o 1 (nI w)) o 2 (nI fr)) o 3 (gI SM 0 3)) o 4 x4 = S12
      have gI12 : ∀ b, b ≠ o → gI S12 b = gI SC b := fun b hb => by
        rw [← hS, sI_ne hb, sI_ne hb, sI_ne hb, sI_ne hb, sI_ne hb]
        funext j; rw [gI_aN, if_neg (by omega)]
      have gR12 : ∀ b, b ≠ o → gR S12 b = gR SC b := fun b hb => by
        rw [← hS]; funext j; show gR (aN SC 4 0) b j = _; rw [gR_aN, if_neg (by omega)]
      have gJ12 : ∀ b, b ≠ o → gJ S12 b = gJ SC b := fun b hb => by
        rw [← hS]; funext j; show gJ (aN SC 4 0) b j = _; rw [gJ_aN, if_neg (by omega)]
      have gK12 : ∀ b, gK S12 b = if b = o then 4 else gK SC b := fun b => by
        rw [← hS]; show gK (aN SC 4 0) b = _; rw [gK_aN, ho]
      have gN12 : ∀ b, b ≠ o → gN S12 b = gN SC b := fun b hb => by
        rw [← hS]; show gN (aN SC 4 0) b = _; rw [gN_aN, if_neg (by omega)]
      have gZ12 : gZ S12 = o + 1 := by rw [← hS]; show gZ SC + 1 = _; rw [ho]
      have hC12 : hC S12 := by rw [← hS]; exact hC_sI (hC_sI (hC_sI (hC_sI (hC_sI (hC_aN d.1 4 0)))))
      have hF12 : hFr S12 := fun b hb => by rw [gZ12] at hb; rw [gK12, if_neg (by omega)]; exact hfr b (by omega)
      have hJ5 : JG S12 5 300 (NL.map oN) := by
        refine JG_ext hfr d.2.2.2.2.2.1 (by rw [gK12, if_neg (by omega)]; exact k5) (by rw [gI12 5 (by omega)]) (by rw [gR12 5 (by omega)]) (fun b hb => ⟨by rw [gK12, if_neg (by omega)], gN12 b (by omega)⟩) (fun dd hdd => gR12 dd ?_)
        have := lt_Z hfr (JG_k d.2.2.2.2.2.1 dd hdd).1 (by decide)
        omega
      have li := cLt_le (f := nFr SM) (l := NL) (d := fr + 1)
      obtain ⟨S13, t1, t2, t3⟩ := addAt_J (e := o) (i := cLt (nFr SM) NL (fr + 1)) hJ5 (Or.inr (Or.inr (by rw [gK12, if_pos rfl]))) (by decide) (by decide) (by rw [List.length_map]; omega) (by rw [gZ12]; omega) (by rw [gZ12]; omega) hF12 (by rw [List.length_map]; exact li)
      obtain ⟨f1, f2, f3, f4, f5, f6, f7, f8, f9⟩ := t3
      rw [t1, bn_s]
      have hs13 : fl_size 5 S13 = some (nI (k + 1), S13) := by
        rw [fz t2.1, t2.2.1, insL_len (by rw [List.length_map]; exact li), List.length_map, l5]
      rw [hs13, bn2_s]
      refine ⟨_, _, _, rfl, r3, ?_, LA, _, oA, oL, _, DRel_note (o := o) (k := k) (fr := fr) d hk lk (fun c h1 h2 => ?_) rfl rfl sI_eq (fun c j h1 h2 h3 => ?_) ?_ ?_ lf (f8 hC12) (f9 hF12) ?_ ?_ ?_ ?_ ?_ ?_ ?_ t2 ?_⟩
      · refine ES.ERel (S := SM) ⟨rfl, rfl, rfl, rfl, rfl, rfl, rfl, rfl, rfl, rfl, rfl, rfl, rfl, rfl, rfl, rfl, rfl⟩ ?_
        exact ERel_ext (fun b h1 h2 h3 => by rw [f1 b (by omega) h3, gI12 b (by omega)]) (fun b h1 => by rw [f3 b (by omega), gJ12 b (by omega)]) e
      · rw [sI_ne (by omega), sI_ne (by omega), sI_ne (by omega), sI_ne (by omega), sI_ne (by omega), sI_ne (by omega), sI_ne (by omega)]
      · rw [sI_ne (by omega), sI_nk h3, sI_nk h3, sI_nk h3, sI_nk h3, sI_nk h3, sI_ne (by omega)]
      · refine ⟨?_, ?_, ?_, ?_⟩
        · show vp_in (gI (sI (sI (sI (sI (sI (sI (sI SM 0 0 0) 15 k x1) 16 k (nI w)) 17 k (nI fr)) 18 k (gI SM 0 3)) 19 k x4) 0 34 (nI (k + 1))) 15 k) (qP SM)
          rw [sI_ne (by decide), sI_ne (by decide), sI_ne (by decide), sI_ne (by decide), sI_ne (by decide), sI_eq]; exact hx1
        · rw [sI_ne (by decide), sI_ne (by decide), sI_ne (by decide), sI_ne (by decide), sI_eq]; exact (n_in (by omega)).mpr lw
        · rw [sI_ne (by decide), sI_ne (by decide), sI_ne (by decide), sI_eq]; exact (n_in (by omega)).mpr lf
        · rw [sI_ne (show 16 ≠ 0 by decide), sI_ne (show 16 ≠ 19 by decide), sI_ne (show 16 ≠ 18 by decide), sI_ne (show 16 ≠ 17 by decide), sI_eq, sI_ne (show 19 ≠ 0 by decide), sI_eq]; exact v1
      · rw [sI_ne (by decide), sI_ne (by decide), sI_ne (by decide), sI_eq]
      · intro b hb
        have hb2 : b < gZ S12 := by omega
        refine ⟨by rw [f4 b hb2, gK12, if_neg (by omega)], by rw [f5 b hb2, gN12 b (by omega)], fun h65 => by rw [f1 b hb2 (by omega), gI12 b (by omega)], fun h65 h4 h5 => by rw [f2 b hb2 (by omega) (by rw [gR12 5 (by omega)]; exact h5), gR12 b (by omega)]⟩
      · rw [f1 0 (by omega) (by decide), gI12 0 (by omega)]
      · rw [f1 6 (by omega) (by decide), gI12 6 (by omega)]
      · rw [f1 4 (by omega) (by decide), gI12 4 (by omega)]
      · rw [f2 4 (by omega) (by decide) (fun z => by
          rw [gR12 5 (by omega)] at z
          have := (JG_k d.2.2.2.2.2.1 4 z).2
          omega), gR12 4 (by omega)]
      · intro dd hdd
        have h65 := JG_k d.2.2.2.2.1 dd hdd
        have hz := lt_Z hfr h65.1 (by decide)
        rw [f2 dd (by omega) (by omega) (by rw [gR12 5 (by omega)]; exact d.2.2.2.2.2.2.1 dd hdd), gR12 dd (by omega)]
      · intro dd hdd
        rcases f7 with q | q
        · left; rw [q, gR12 5 (by omega)] at hdd; exact hdd
        · right; rw [q] at hdd; injection hdd with hdd; omega
      · have io : gI S13 o = gI S12 o := f1 o (by omega) (by omega)
        refine ⟨by omega, by rw [f4 o (by omega), gK12, if_pos rfl], ?_, ?_, ?_, ?_, ?_⟩
        · rw [io, ← hS, sI_nk (by decide), sI_nk (by decide), sI_nk (by decide), sI_nk (by decide), sI_eq, sI_ne (by decide), sI_ne (by decide), sI_ne (by decide), sI_ne (by decide), sI_ne (by decide), sI_eq]
        · rw [io, ← hS, sI_nk (by decide), sI_nk (by decide), sI_nk (by decide), sI_eq, sI_ne (by decide), sI_ne (by decide), sI_ne (by decide), sI_ne (by decide), sI_eq]
        · rw [io, ← hS, sI_nk (by decide), sI_nk (by decide), sI_eq, sI_ne (by decide), sI_ne (by decide), sI_ne (by decide), sI_eq]
        · rw [io, ← hS, sI_nk (by decide), sI_eq, sI_ne (by decide), sI_ne (by decide), sI_eq]
        · rw [io, ← hS, sI_eq, sI_ne (by decide), sI_eq]
  · exact ⟨_, _, _, by rw [v2, bn2_s, cd_t rfl], r1 (v3 _), hr'⟩
