/-! small methods -/
theorem DRel_sI {S SM : HS} {LA NL : List Nat} {oA oL oN : Nat → Nat} {c k : Nat} {v : Int32} (h1 : c < 24) (h2 : c ≠ 4 ∧ c ≠ 5 ∧ c ≠ 6) (h3 : c = 0 → k ≠ 16) (d : DRel S SM LA NL oA oL oN) : DRel (sI S c k v) SM LA NL oA oL oN := by
  refine DRel_keep (S := S) (hC_sI d.1) rfl rfl rfl ?_ (sI_ne (by omega)) (sI_ne (by omega)) (sI_ne (by omega)) rfl rfl (fun q hq => sI_ne (by omega)) (fun _ _ => rfl) d
  by_cases e : c = 0
  · subst e; exact sI_nk (Ne.symm (h3 rfl))
  · rw [sI_ne (Ne.symm e)]
theorem DRel_sJ {S SM : HS} {LA NL : List Nat} {oA oL oN : Nat → Nat} {c k : Nat} {v : Int64} (d : DRel S SM LA NL oA oL oN) : DRel (sJ S c k v) SM LA NL oA oL oN :=
  DRel_keep (S := S) (hC_sJ d.1) rfl rfl rfl rfl rfl rfl rfl rfl rfl (fun _ _ => rfl) (fun _ _ => rfl) d
theorem DRel_sR {S SM : HS} {LA NL : List Nat} {oA oL oN : Nat → Nat} {c k : Nat} {v : Option Nat} (h1 : c = 8 ∨ c = 12) (d : DRel S SM LA NL oA oL oN) : DRel (sR S c k v) SM LA NL oA oL oN := by
  have hk : gK S c = 24 ∨ gK S c = 2 := by
    rcases h1 with rfl | rfl
    · exact Or.inl (hCk d.1 8 (by decide) rfl)
    · exact Or.inr (hCk d.1 12 (by decide) rfl)
  have hc : hC (sR S c k v) := by
    rcases hk with hk | hk
    · exact hC_sR d.1 hk (by decide)
    · exact hC_sR d.1 hk (by decide)
  exact DRel_keep (S := S) hc rfl rfl rfl rfl rfl rfl rfl (sR_ne (by omega)) (sR_ne (by omega)) (fun _ _ => rfl) (fun q hq => sR_ne (by omega)) d
theorem m_fault (x1 : Int32) : LIi RR (fn_X8_fault x1) (fn_X9_fault x1) := by
  refine LIi_of (fun SC SM hr => ?_)
  have hr' := RR_t hr
  obtain ⟨⟨_, _, _, _, _, _, h1, h2, _⟩, _⟩ := hr
  unfold fn_X8_fault fn_X9_fault fn_X8_fault_28 fn_X9_fault_29
  simp only [bn_s]
  by_cases c0 : x1 = 0
  · exact ⟨_, _, _, cd_t c0, (cd_t c0).trans (by rw [h1]; rfl), hr'⟩
  · by_cases c1 : x1 = 1
    · exact ⟨_, _, _, (cd_f c0).trans (cd_t c1), ((cd_f c0).trans (cd_t c1)).trans (by rw [h2]; rfl), hr'⟩
    · exact ⟨_, _, _, (cd_f c0).trans (cd_f c1), ((cd_f c0).trans (cd_f c1)), hr'⟩
theorem m_pass (x1 : Int32) : LIi RR (fn_X8_pass x1) (fn_X9_pass x1) := by
  refine LIi_of (fun SC SM hr => ?_)
  have hr' := RR_t hr
  obtain ⟨e, LA, NL, oA, oL, oN, d⟩ := hr
  have h13 : gI SC 0 13 = gI SM 0 3 := e.2.1
  unfold fn_X8_pass fn_X9_pass fn_X8_pass_23 fn_X9_pass_28
  simp only [bn_s, sI_eq]
  rw [show gI (sI SM 0 0 0) 0 3 = gI SM 0 3 from sI_nk (by decide), h13]
  by_cases c0 : x1 < 0
  · exact ⟨_, _, _, cd_t c0, cd_t c0, hr'⟩
  by_cases c1 : 1200 < x1
  · exact ⟨_, _, _, (cd_f c0).trans (cd_t c1), (cd_f c0).trans (cd_t c1), hr'⟩
  by_cases c2 : gI SM 0 3 + x1 < 1200
  · refine ⟨_, _, _, (cd_f c0).trans ((cd_f c1).trans (cd_t c2)), (cd_f c0).trans ((cd_f c1).trans (cd_t c2)), ?_⟩
    have hv : vp_in (gI SM 0 3 + x1) 1200 := by
      have h0 := in_def.mp e.1.1
      rw [in_def]
      rw [t_lt] at c0 c1 c2
      have e1 : (0 : Int32).toInt = 0 := rfl
      have e2 : (1200 : Int32).toInt = 1200 := rfl
      rw [e1] at c0; rw [e2] at c1 c2
      rw [t_add (by omega) (by omega)] at *
      omega
    refine ⟨?_, LA, NL, oA, oL, oN, (MS_s0 (by decide)).DRel ((MS_s0 (by decide)).DRel (DRel_sI (by decide) (by decide) (by decide) d))⟩
    obtain ⟨⟨a1, a2⟩, a3, a4⟩ := e
    exact ⟨⟨hv, a2⟩, rfl, a4⟩
  · exact ⟨_, _, _, (cd_f c0).trans ((cd_f c1).trans (cd_f c2)), (cd_f c0).trans ((cd_f c1).trans (cd_f c2)), hr'⟩
theorem sz_A {SC SM : HS} {LA NL : List Nat} {oA oL oN : Nat → Nat} (d : DRel SC SM LA NL oA oL oN) : gK SC 4 = 0 ∧ gI SC 4 2 = gI SM 0 7 ∧ LA.length = qA SM ∧ gK SC 5 = 0 ∧ gI SC 5 2 = gI SM 0 34 ∧ NL.length = qN SM := by
  obtain ⟨a1, a2, a3, ⟨p1, _, _, p2, _⟩, a5, a6, _⟩ := d
  have e1 : LA.length = qA SM := by rw [p1.length_eq, List.length_range]
  have e2 : NL.length = qN SM := by rw [p2.length_eq, List.length_range]
  refine ⟨a5.1, ?_, e1, a6.1, ?_, e2⟩
  · rw [a5.2.1, List.length_map, e1]; exact (n_of_in a3.1).1.symm
  · rw [a6.2.1, List.length_map, e2]; exact (n_of_in a3.2.2.1).1.symm
theorem fz {S : HS} {c : Nat} (h : gK S c = 0) : fl_size c S = some (gI S c 2, S) := gd_t h
theorem m_count (x1 : Int32) : LIi RR (fn_X8_count x1) (fn_X9_count x1) := by
  refine LIi_of (fun SC SM hr => ?_)
  have hr' := RR_t hr
  obtain ⟨e, LA, NL, oA, oL, oN, d⟩ := hr
  obtain ⟨k4, s4, _, k5, s5, _⟩ := sz_A d
  have h16 : gI SC 0 16 = gI SM 0 28 := d.2.2.2.2.2.2.2.2.2.2.1
  obtain ⟨_, h13, _, h15, h17, _, _, _, _, _, _, _, h54, _⟩ := e
  unfold fn_X8_count fn_X9_count
  simp only [bn_s, fz k4, fz k5, bn2_s, h13, h16, h15, h17, h54, s4, s5]
  have hin : vp_in (gI (sI SM 0 0 0) 0 7) 13 := d.2.2.1.1
  by_cases c0 : x1 = 0
  · exact ⟨_, _, _, cd_t c0, cd_t c0, hr'⟩
  by_cases c1 : x1 = 1
  · exact ⟨_, _, _, (cd_f c0).trans (cd_t c1), (cd_f c0).trans (cd_t c1), hr'⟩
  by_cases c2 : x1 = 2
  · exact ⟨_, _, _, (cd_f c0).trans ((cd_f c1).trans (cd_t c2)), (cd_f c0).trans ((cd_f c1).trans (cd_t c2)), hr'⟩
  by_cases c3 : x1 = 3
  · exact ⟨_, _, _, (cd_f c0).trans ((cd_f c1).trans ((cd_f c2).trans (cd_t c3))), (cd_f c0).trans ((cd_f c1).trans ((cd_f c2).trans (cd_t c3))), hr'⟩
  by_cases c4 : x1 = 4
  · exact ⟨_, _, _, (cd_f c0).trans ((cd_f c1).trans ((cd_f c2).trans ((cd_f c3).trans (cd_t c4)))), (cd_f c0).trans ((cd_f c1).trans ((cd_f c2).trans ((cd_f c3).trans ((cd_t c4).trans (gd_t hin))))), hr'⟩
  by_cases c5 : x1 = 5
  · exact ⟨_, _, _, (cd_f c0).trans ((cd_f c1).trans ((cd_f c2).trans ((cd_f c3).trans ((cd_f c4).trans (cd_t c5))))), (cd_f c0).trans ((cd_f c1).trans ((cd_f c2).trans ((cd_f c3).trans ((cd_f c4).trans (cd_t c5))))), hr'⟩
  by_cases c6 : x1 = 6
  · exact ⟨_, _, _, (cd_f c0).trans ((cd_f c1).trans ((cd_f c2).trans ((cd_f c3).trans ((cd_f c4).trans ((cd_f c5).trans (cd_t c6)))))), (cd_f c0).trans ((cd_f c1).trans ((cd_f c2).trans ((cd_f c3).trans ((cd_f c4).trans ((cd_f c5).trans (cd_t c6)))))), hr'⟩
  · exact ⟨_, _, _, (cd_f c0).trans ((cd_f c1).trans ((cd_f c2).trans ((cd_f c3).trans ((cd_f c4).trans ((cd_f c5).trans (cd_f c6)))))), (cd_f c0).trans ((cd_f c1).trans ((cd_f c2).trans ((cd_f c3).trans ((cd_f c4).trans ((cd_f c5).trans (cd_f c6)))))), hr'⟩
