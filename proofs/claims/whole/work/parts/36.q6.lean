/-! paid, post, feed -/
theorem isPost_C {SC SM : HS} (h : gI SC 0 16 = gI SM 0 28) (hv : vp_in (gI SM 0 28) 9) (x1 : Int32) : (fn_X8_isPost x1 SC = some (1, SC) ∧ (∀ S', gI S' 0 28 = gI SM 0 28 → fn_X9_isPost x1 S' = some (1, S')) ∧ vp_in x1 (qP SM)) ∨ (fn_X8_isPost x1 SC = some (0, SC) ∧ (∀ S', gI S' 0 28 = gI SM 0 28 → fn_X9_isPost x1 S' = some (0, S'))) := by
  obtain ⟨em, lm⟩ := n_of_in hv
  unfold fn_X8_isPost fn_X9_isPost fn_X8_isPost_16 fn_X8_isPost_17 fn_X9_isPost_16 fn_X9_isPost_17
  rw [h]
  have g1 : ∀ S : HS, gd ((1 : Int32) = 0 ∨ (1 : Int32) = 1) (some ((1 : Int32), S)) = some (1, S) := fun S => gd_t (Or.inr rfl)
  have g0 : ∀ S : HS, gd ((0 : Int32) = 0 ∨ (0 : Int32) = 1) (some ((0 : Int32), S)) = some (0, S) := fun S => gd_t (Or.inl rfl)
  by_cases c0 : x1 < 0
  · right
    refine ⟨(cd_t c0).trans (g0 _), fun S' e => ?_⟩
    rw [e]; exact (cd_t c0).trans (g0 _)
  by_cases c1 : gI SM 0 28 ≤ x1
  · right
    refine ⟨(cd_f c0).trans ((cd_t c1).trans (g0 _)), fun S' e => ?_⟩
    rw [e]; exact (cd_f c0).trans ((cd_t c1).trans (g0 _))
  · left
    refine ⟨(cd_f c0).trans ((cd_f c1).trans (g1 _)), fun S' e => ?_, n_lo c0 (by rw [em] at c1; exact c1) (by unfold qP; omega)⟩
    rw [e]; exact (cd_f c0).trans ((cd_f c1).trans (g1 _))
theorem isMonth_C (S : HS) (x : Int32) : (vp_in x 40 ∧ fn_X8_isMonth x S = some (1, S) ∧ ¬ x < 0 ∧ ¬ 39 < x) ∨ (fn_X8_isMonth x S = some (0, S) ∧ (x < 0 ∨ 39 < x)) := by
  unfold fn_X8_isMonth fn_X8_isMonth_14 fn_X8_isMonth_15
  have g1 : ∀ S : HS, gd ((1 : Int32) = 0 ∨ (1 : Int32) = 1) (some ((1 : Int32), S)) = some (1, S) := fun S => gd_t (Or.inr rfl)
  have g0 : ∀ S : HS, gd ((0 : Int32) = 0 ∨ (0 : Int32) = 1) (some ((0 : Int32), S)) = some (0, S) := fun S => gd_t (Or.inl rfl)
  by_cases c0 : x < 0
  · exact Or.inr ⟨(cd_t c0).trans (g0 _), Or.inl c0⟩
  by_cases c1 : 40 ≤ x
  · refine Or.inr ⟨(cd_f c0).trans ((cd_t c1).trans (g0 _)), Or.inr ?_⟩
    rw [t_lt]; rw [t_le] at c1
    have q1 : (39 : Int32).toInt = 39 := rfl
    have q2 : (40 : Int32).toInt = 40 := rfl
    omega
  · refine Or.inl ⟨n_lo c0 c1 (by decide), (cd_f c0).trans ((cd_f c1).trans (g1 _)), c0, ?_⟩
    rw [t_lt]; rw [t_le] at c1
    have q1 : (39 : Int32).toInt = 39 := rfl
    have q2 : (40 : Int32).toInt = 40 := rfl
    omega
theorem m_paid (x1 x2 : Int32) : LIl RR (fn_X8_paid x1 x2) (fn_X9_paid x1 x2) := by
  refine LIl_of (fun SC SM hr => ?_)
  have hr' := RR_t hr
  obtain ⟨e, LA, NL, oA, oL, oN, d⟩ := hr
  have h16 : gI SC 0 16 = gI SM 0 28 := d.2.2.2.2.2.2.2.2.2.2.1
  have hp := d.2.2.1.2.1
  have ⟨emp, lmp⟩ := n_of_in hp
  obtain ⟨_, _, _, _, _, _, _, _, h35, _⟩ := e
  unfold fn_X8_paid fn_X9_paid fn_X8_paid_15 fn_X9_paid_37 fn_X9_paid_40
  simp only [bn_s]
  rcases isPost_C h16 hp x1 with ⟨a1, a2, a3⟩ | ⟨a1, a2⟩
  · rw [a1, a2 _ (sI_nk (by decide))]
    simp only [bn2_s]
    rw [cd_f (by decide), cd_f (by decide)]
    rcases isMonth_C SC x2 with ⟨b1, b2, b3, b4⟩ | ⟨b2, b3⟩
    · obtain ⟨a, la, rfl⟩ := n_ex a3
      obtain ⟨b, lb, rfl⟩ := n_ex b1
      unfold qP at la
      rw [b2]
      have e1 : nI a * 40 + nI b = nI (40 * a + b) := by rw [n_lit, n_mul, n_add, Nat.mul_comm]
      have e2 : 40 * nI a + nI b = nI (40 * a + b) := by rw [n_lit, n_mul, n_add]
      simp only [bn2_s, b3, b4, cd_F, e1, e2]
      have hin : vp_in (nI (40 * a + b)) 320 := (n_in (by omega)).mpr (by omega)
      rw [cd_f (by decide), gd_t hin, gd_t hin, n_cl (by omega)]
      exact ⟨_, _, _, rfl, by rw [h35 _ (by omega)]; rfl, hr'⟩
    · rw [b2]
      simp only [bn2_s]
      refine ⟨_, _, _, cd_t trivial, ?_, hr'⟩
      by_cases q : x2 < 0
      · exact cd_t q
      · exact (cd_f q).trans (cd_t (by rcases b3 with h | h; exact absurd h q; exact h))
  · rw [a1, a2 _ (sI_nk (by decide))]
    simp only [bn2_s]
    exact ⟨_, _, _, cd_t trivial, cd_t trivial, hr'⟩
theorem DOK_post {S S' : HS} (kM : ∀ c, 2 ≤ c → c < 14 → gI S' c = gI S c) (kN : ∀ c, 15 ≤ c → c < 20 → gI S' c = gI S c) (e7 : gI S' 0 7 = gI S 0 7) (e34 : gI S' 0 34 = gI S 0 34) (h28 : vp_in (gI S' 0 28) 9) (hq : qP S ≤ qP S') (hp : ∀ p, p < 8 → vp_in (gI S' 14 p) 8) (h : DOK S) : DOK S' := by
  obtain ⟨b1, b2, b3, b4, b5, b6, b7, b8, b9, b10⟩ := h
  have qa : qA S' = qA S := by unfold qA; rw [e7]
  have qn : qN S' = qN S := by unfold qN; rw [e34]
  have ql : qL S' = qL S := by funext a; unfold qL; rw [kM 4 (by omega) (by omega)]
  have qk : qK S' = qK S := by funext a; unfold qK; rw [kM 5 (by omega) (by omega)]
  have lo : LOK S' = LOK S := by
    funext n
    unfold LOK
    simp only [qk, kM 5 (by omega) (by omega), kM 6 (by omega) (by omega), kM 7 (by omega) (by omega), kM 10 (by omega) (by omega), kM 11 (by omega) (by omega), kM 12 (by omega) (by omega), kM 13 (by omega) (by omega)]
  unfold DOK
  rw [qa, qn, ql, lo, e7, e34, kM 3 (by omega) (by omega), kM 4 (by omega) (by omega)]
  refine ⟨b1, h28, b3, b4, b5, b6, b7, b8, fun k hk => ?_, hp⟩
  obtain ⟨n1, n2, n3, n4⟩ := b9 k hk
  unfold NOK
  rw [kN 15 (by omega) (by omega), kN 16 (by omega) (by omega), kN 17 (by omega) (by omega), kN 19 (by omega) (by omega)]
  exact ⟨in_mono n1 hq, n2, n3, n4⟩
theorem m_post (x1 : Int32) : LIi RR (fn_X8_post x1) (fn_X9_post x1) := by
  refine LIi_of (fun SC SM hr => ?_)
  have hr' := RR_t hr
  obtain ⟨e, LA, NL, oA, oL, oN, d⟩ := hr
  have h16 : gI SC 0 16 = gI SM 0 28 := d.2.2.2.2.2.2.2.2.2.2.1
  have hp := d.2.2.1.2.1
  have ⟨emp, lmp⟩ := n_of_in hp
  generalize hP : Int32.toNatClampNeg (gI SM 0 28) = P at *
  unfold fn_X8_post fn_X9_post fn_X8_post_19 fn_X9_post_24
  simp only [bn_s]
  have e28 : gI (sI SM 0 0 0) 0 28 = nI P := (sI_nk (by decide)).trans emp
  have e16 : gI SC 0 16 = nI P := h16.trans emp
  rw [e28, e16, n_cl (by omega)]
  by_cases c0 : x1 < 0
  · exact ⟨_, _, _, cd_t c0, cd_t c0, hr'⟩
  by_cases c1 : (8 : Int32) ≤ x1
  · have c1' : (7 : Int32) < x1 := by
      rw [t_lt]; rw [t_le] at c1
      have q1 : (7 : Int32).toInt = 7 := rfl
      have q2 : (8 : Int32).toInt = 8 := rfl
      omega
    exact ⟨_, _, _, (cd_f c0).trans (cd_t c1), (cd_f c0).trans (cd_t c1'), hr'⟩
  have c1' : ¬ (7 : Int32) < x1 := by
    rw [t_lt]; rw [t_le] at c1
    have q1 : (7 : Int32).toInt = 7 := rfl
    have q2 : (8 : Int32).toInt = 8 := rfl
    omega
  have hx : vp_in x1 8 := n_lo c0 c1 (by decide)
  rcases Nat.lt_or_ge P 8 with c2 | c2
  · have f1 : nI P < 8 := by rw [n_lit, n_lt (by omega) (by omega)]; exact c2
    have f2 : ¬ nI P = 8 := by rw [n_lit, n_eq (by omega) (by omega)]; omega
    have f3 : vp_in (nI P) 8 := (n_in (by omega)).mpr c2
    simp only [c0, c1, c1', f1, f2, f3, cd_F, cd_T, gd_T]
    have r1 : gI (sI (sI (sI SM 0 0 0) 14 P x1) 0 28 (gI (sI (sI SM 0 0 0) 14 P x1) 0 28 + 1)) 0 28 - 1 = nI P := by
      rw [sI_eq, show gI (sI (sI SM 0 0 0) 14 P x1) 0 28 = nI P from by rw [sI_ne (by decide)]; exact e28, Int32.add_sub_cancel]
    have r2 : gI (sI (sI SC 6 P x1) 0 16 (gI (sI SC 6 P x1) 0 16 + 1)) 0 16 - 1 = nI P := by
      rw [sI_eq, show gI (sI SC 6 P x1) 0 16 = nI P from by rw [sI_ne (by decide)]; exact e16, Int32.add_sub_cancel]
    rw [r1, r2]
    refine ⟨_, _, _, rfl, rfl, ?_, LA, NL, oA, oL, oN, ?_⟩
    · refine ES.ERel (S := SM) ⟨rfl, rfl, rfl, rfl, rfl, rfl, rfl, rfl, rfl, rfl, rfl, rfl, rfl, rfl, rfl, rfl, rfl⟩ (EC.ERel (S := SC) ⟨rfl, rfl, rfl, rfl, rfl, rfl, rfl, rfl, rfl, rfl, rfl⟩ e)
    · rw [show gI (sI (sI SM 0 0 0) 14 P x1) 0 28 = nI P from by rw [sI_ne (by decide)]; exact e28, show gI (sI SC 6 P x1) 0 16 = nI P from by rw [sI_ne (by decide)]; exact e16]
      have e1 : nI P + 1 = nI (P + 1) := by rw [n_lit, n_add]
      rw [e1]
      obtain ⟨a1, a2, a3, a4, a5, a6, a7, a8, a9, a10, a12, a13⟩ := d
      have k1 : ∀ q, 65 ≤ q → gI (sI (sI SC 6 P x1) 0 16 (nI (P + 1))) q = gI SC q := fun q hq => by rw [sI_ne (by omega), sI_ne (by omega)]
      have kM : ∀ c, 2 ≤ c → c < 14 → gI (sI (sI (sI SM 0 0 0) 14 P x1) 0 28 (nI (P + 1))) c = gI SM c := fun c h1 h2 => by rw [sI_ne (by omega), sI_ne (by omega), sI_ne (by omega)]
      have kN : ∀ c, 15 ≤ c → c < 20 → gI (sI (sI (sI SM 0 0 0) 14 P x1) 0 28 (nI (P + 1))) c = gI SM c := fun c h1 h2 => by rw [sI_ne (by omega), sI_ne (by omega), sI_ne (by omega)]
      refine ⟨a1, a2, ?_, a4, JG_keep (S := SC) rfl rfl rfl rfl (fun _ _ => rfl) a5, JG_keep (S := SC) rfl rfl rfl rfl (fun _ _ => rfl) a6, a7, fun a ha => ?_, fun a ha => ?_, fun a ha => ?_, rfl, ?_⟩
      · refine DOK_post kM kN rfl rfl (show vp_in (nI (P + 1)) 9 from (n_in (by omega)).mpr (by omega)) (show qP SM ≤ Int32.toNatClampNeg (nI (P + 1)) by rw [n_cl (by omega)]; unfold qP; omega) (fun p hp => ?_) a3
        rw [sI_ne (by decide), gI_sI, sI_ne (by decide)]
        split
        · exact hx
        · exact a3.2.2.2.2.2.2.2.2.2 p hp
      · rw [ARel_M kM]; exact ARel_keep (S := SC) rfl rfl rfl rfl k1 (fun _ _ => rfl) (a8 a ha)
      · rw [LRel_M kM]; exact LRel_keep (S := SC) rfl rfl k1 (fun _ _ => rfl) (a9 a ha)
      · rw [NRel_M kN]; exact NRel_keep (S := SC) rfl k1 (a10 a ha)
      · intro p hp
        have l1 : gI (sI (sI SC 6 P x1) 0 16 (nI (P + 1))) 6 p = if p = P then x1 else gI SC 6 p := by rw [sI_ne (by decide), gI_sI]; simp only [true_and]
        have l2 : gI (sI (sI (sI SM 0 0 0) 14 P x1) 0 28 (nI (P + 1))) 14 p = if p = P then x1 else gI SM 14 p := by rw [sI_ne (by decide), gI_sI, sI_ne (by decide)]; simp only [true_and]
        rw [l1, l2]
        split
        · rfl
        · exact a13 p hp
  · have f1 : ¬ nI P < 8 := by rw [n_lit, n_lt (by omega) (by omega)]; omega
    have f2 : nI P = 8 := by rw [n_lit, n_eq (by omega) (by omega)]; omega
    simp only [c0, c1, c1', f1, cd_F]
    exact ⟨_, _, _, rfl, cd_t f2, hr'⟩
