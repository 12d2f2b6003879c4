/-! agree -/
theorem m_agree (x1 x2 : Int32) : LIi RR (fn_X8_agree x1 x2) (fn_X9_agree x1 x2) := by
  refine LIi_of (fun SC SM hr => ?_)
  have hr0 := RR_t hr
  generalize hM0 : sI SM 0 0 0 = M0 at hr0
  have hr' := hr0
  obtain ⟨e, LA, NL, oA, oL, oN, d⟩ := hr0
  have hd := d.2.2.1
  unfold fn_X8_agree fn_X8_agree_31 fn_X9_agree fn_X9_agree_37
  rw [bn_s, hM0]
  have e14 : gI SC 0 14 = gI M0 0 2 := e.2.2.1
  rw [e14]
  by_cases c1 : x1 < 0
  · exact ⟨_, _, _, cd_t c1, cd_t c1, hr'⟩
  rw [cd_f c1, cd_f c1]
  by_cases c2 : gI M0 0 2 < x1
  · exact ⟨_, _, _, cd_t c2, cd_t c2, hr'⟩
  rw [cd_f c2, cd_f c2]
  by_cases c5 : x2 < 0
  · refine ⟨_, _, _, ?_, cd_t c5, hr'⟩
    unfold fn_X8_isDay fn_X8_isDay_15 fn_X8_isDay_16
    rw [cd_t c5, gd0, bn2_s, cd_t rfl]
  rw [cd_f (a := some (-2, M0)) c5]
  by_cases c6 : 1200 ≤ x2
  · refine ⟨_, _, _, ?_, cd_t c6, hr'⟩
    unfold fn_X8_isDay fn_X8_isDay_15 fn_X8_isDay_16
    rw [cd_f c5, cd_t c6, gd0, bn2_s, cd_t rfl]
  rw [cd_f (a := some (-2, M0)) c6]
  have hD1 : fn_X8_isDay x2 SC = some (1, SC) := by
    unfold fn_X8_isDay fn_X8_isDay_16
    rw [cd_f c5, cd_f c6]; exact gd1 _
  obtain ⟨k4, s4, l4, k5, s5, l5⟩ := sz_A d
  have e7 : gI M0 0 7 = nI (qA M0) := (n_of_in hd.1).1
  have l7 : qA M0 < 13 := (n_of_in hd.1).2
  have hsz : fl_size 4 SC = some (nI (qA M0), SC) := by rw [fz k4, s4, e7]
  rw [hD1, bn2_s, cd_f z10, hsz, bn2_s]
  generalize ha : qA M0 = a at *
  by_cases ca : a = 12
  · refine ⟨_, _, _, cd_f (by rw [n_lit, n_lt (by omega) (by omega)]; omega), cd_t (by rw [e7, n_lit, n_eq (by omega) (by omega)]; exact ca), hr'⟩
  have la : a < 12 := by omega
  rw [cd_t (by rw [n_lit, n_lt (by omega) (by omega)]; exact la), cd_f (by rw [e7, n_lit, n_eq (by omega) (by omega)]; exact ca), bn_s, bn_s, bn_s]
  -- what is read
  obtain ⟨N, lN, rfl⟩ : ∃ N, N ≤ 2000 ∧ x1 = nI N := by
    have v2 := n_of_in e.1.2.1
    have hlo : vp_in x1 2001 := n_lo c1 (by
      rw [t_le]; rw [t_lt] at c2
      rw [v2.1, n_int (by omega)] at c2
      have : (nI 2001).toInt = 2001 := rfl
      omega) (by decide)
    obtain ⟨N, h1, h2⟩ := n_ex hlo
    exact ⟨N, by omega, h2⟩
  obtain ⟨fr, lf, rfl⟩ := n_ex (n_lo (n := 1200) c5 c6 (by decide))
  have hF40 := qL_40 hd a (by omega)
  have e4 : gI M0 4 a = nI (qL M0 a) := (n_of_in (hd.2.2.2.2.2.1 a (by omega))).1
  generalize hFF : qL M0 a = F at *
  have hZ : 65 ≤ gZ SC := d.1.1
  have hby : ∀ j, j < 2000 → gI M0 1 j = nI (Int32.toNatClampNeg (gI M0 1 j)) ∧ Int32.toNatClampNeg (gI M0 1 j) < 256 := fun j hj => by
    have h1 := and_in (gI SC 1 j)
    rw [e.2.2.2.2.2.1 j hj] at h1
    exact h1
  have pc : ∀ c, c ≠ 0 → gI (sI (sI M0 0 17 (nI N)) 0 2 0) c = gI M0 c := fun c z => by rw [sI_ne z, sI_ne z]
  have p0 : ∀ j, j ≠ 2 → j ≠ 17 → gI (sI (sI M0 0 17 (nI N)) 0 2 0) 0 j = gI M0 0 j := fun j z1 z2 => by rw [sI_nk z1, sI_nk z2]
  have p02 : gI (sI (sI M0 0 17 (nI N)) 0 2 0) 0 2 = 0 := sI_eq
  have p17 : gI (sI (sI M0 0 17 (nI N)) 0 2 0) 0 17 = nI N := by rw [sI_nk (by decide), sI_eq]
  have pJ : gJ (sI (sI M0 0 17 (nI N)) 0 2 0) = gJ M0 := rfl
  generalize hMp : sI (sI M0 0 17 (nI N)) 0 2 0 = Mp at *
  have pa : qA Mp = a := by unfold qA; rw [p0 7 (by decide) (by decide)]; exact ha
  obtain ⟨S6, M4, r1, r2, r3⟩ := read_both (b := fun j => Int32.toNatClampNeg (gI M0 1 j)) (N := N) (F := F) (S := sI SC 0 14 0) (M := Mp) (hC_sI d.1) d.2.1 lN (fun j hj => by
      rw [sI_ne (by decide), e.2.2.2.2.2.1 j hj]; exact hby j hj) (fun j hj => by rw [pc 1 (by decide)]; exact (hby j hj).1) p17 (by rw [p0 7 (by decide) (by decide)]; exact hd.1) (by rw [pa, pc 4 (by decide)]; exact e4) (by omega)
  have r1 : fn_X4_read (nI N) (sI SC 0 14 0) = some (some (gZ SC), S6) := r1
  have r3 : (∃ ys : List Nat, ys.length ≤ 40 ∧ PX S6 M4 (fun j => Int32.toNatClampNeg (gI M0 1 j)) N ∧ INV F (gZ SC) ys (sI SC 0 14 0) Mp S6 M4 ∧ gZ SC < gZ S6) ∨ (PF S6 M4 (fun j => Int32.toNatClampNeg (gI M0 1 j)) N ∧ INVF (gZ SC) (sI SC 0 14 0) S6 ∧ MB F Mp M4) := r3
  rw [r1, bn2_s, r2, bn_s, bn_s, bn_s, sI_nk (show 23 ≠ 24 by decide), bn_s]
  generalize hl : gZ SC = l at *
  have hMB : MB F Mp M4 := by
    rcases r3 with ⟨ys, _, _, q, _⟩ | q
    · exact q.2.1
    · exact q.2.2
  have hIF : INVF l (sI SC 0 14 0) S6 := by
    rcases r3 with ⟨ys, _, _, q, _⟩ | q
    · exact q.1
    · exact q.2.1
  have hPZ : PZ S6 M4 (fun j => Int32.toNatClampNeg (gI M0 1 j)) N := by
    rcases r3 with ⟨ys, _, q, _, _⟩ | q
    · exact Or.inl q
    · exact Or.inr q.1
  obtain ⟨g6, g7⟩ := PZ_f hPZ
  have M6c : ∀ c, c ≠ 0 → gI (sI (sI M4 0 24 (gI M4 0 22)) 0 25 (gI M4 0 23)) c = gI M4 c := fun c z => by rw [sI_ne z, sI_ne z]
  have M60 : ∀ j, j ≠ 24 → j ≠ 25 → gI (sI (sI M4 0 24 (gI M4 0 22)) 0 25 (gI M4 0 23)) 0 j = gI M4 0 j := fun j z1 z2 => by rw [sI_nk z2, sI_nk z1]
  have M624 : gI (sI (sI M4 0 24 (gI M4 0 22)) 0 25 (gI M4 0 23)) 0 24 = gI M4 0 22 := by rw [sI_nk (by decide), sI_eq]
  have M625 : gI (sI (sI M4 0 24 (gI M4 0 22)) 0 25 (gI M4 0 23)) 0 25 = gI M4 0 23 := sI_eq
  have M6J : gJ (sI (sI M4 0 24 (gI M4 0 22)) 0 25 (gI M4 0 23)) = gJ M4 := rfl
  generalize hM6 : sI (sI M4 0 24 (gI M4 0 22)) 0 25 (gI M4 0 23) = M6 at *
  -- the reference, against its beginning
  have mc : ∀ c, c < 5 ∨ 13 < c → c ≠ 0 → gI M6 c = gI M0 c := fun c z1 z2 => by rw [M6c c z2, hMB.1 c z1 z2, pc c z2]
  have mcj : ∀ c j, 5 ≤ c → c ≤ 13 → c ≠ 12 → j < F → gI M6 c j = gI M0 c j := fun c j z1 z2 z3 z4 => by rw [M6c c (by omega), hMB.2.1 c j (by omega) z3 z4, pc c (by omega)]
  have m12 : ∀ j, j < 8 * F → gI M6 12 j = gI M0 12 j := fun j z => by rw [M6c 12 (by decide), hMB.2.2.1 j z, pc 12 (by decide)]
  have m0 : ∀ j, j ≠ 2 → j ≠ 17 → j < 18 ∨ 26 < j → gI M6 0 j = gI M0 0 j := fun j z1 z2 z3 => by rw [M60 j (by omega) (by omega), hMB.2.2.2.1 j (by omega), p0 j z1 z2]
  have m02 : gI M6 0 2 = 0 := by rw [M60 2 (by decide) (by decide), hMB.2.2.2.1 2 (by omega), p02]
  have mJ : gJ M6 = gJ M0 := by rw [M6J, hMB.2.2.2.2, pJ]
  -- the class, against its beginning
  have sI0 : ∀ j, j ≠ 14 → gI S6 0 j = gI SC 0 j := fun j z => by rw [hIF.2.2.1 0 (by omega) (by decide) (by decide), sI_nk z]
  have sI14 : gI S6 0 14 = 0 := by rw [hIF.2.2.1 0 (by omega) (by decide) (by decide), sI_eq]
  have sIb : ∀ b, b < l → b ≠ 0 → b ≠ 2 → b ≠ 3 → gI S6 b = gI SC b := fun b z1 z2 z3 z4 => by rw [hIF.2.2.1 b z1 z3 z4, sI_ne z2]
  have sOb : ∀ b, b < l → gR S6 b = gR SC b ∧ gJ S6 b = gJ SC b ∧ gK S6 b = gK SC b ∧ gN S6 b = gN SC b := fun b z => hIF.2.2.2.1 b z
  have q7 : gI M6 0 7 = nI a := by rw [m0 7 (by decide) (by decide) (by omega), e7]
  have qa6 : qA M6 = a := by unfold qA; rw [q7, n_cl (by omega)]
  by_cases cf : gI M4 0 22 = 0
  · -- the text is taken
    rcases r3 with ⟨ys, ly, _, hI, hlz⟩ | ⟨q, _⟩
    rotate_left
    · exact absurd cf q.2.2.2.1
    obtain ⟨_, _, j3, j4, j5, _, j7⟩ := hI
    have c6' : gI M6 0 22 = 0 := by rw [M60 22 (by decide) (by decide)]; exact cf
    rw [cd_t (g6.trans cf), cd_t c6']
    have hC6 := hIF.1
    have hFr6 := hIF.2.1
    generalize ho : gZ S6 = o at *
    -- the reference
    have f12 : vp_in (nI a) 12 := (n_in (by omega)).mpr la
    have f13 : vp_in (nI (a + 1)) 13 := (n_in (by omega)).mpr (by omega)
    have fa : (nI a).toNatClampNeg = a := n_cl (by omega)
    have fa1 : (nI (a + 1)).toNatClampNeg = a + 1 := n_cl (by omega)
    have hM : (gd (vp_in (gI M6 0 7) 12) (bn (some (sI M6 2 (gI M6 0 7 : Int32).toNatClampNeg (gI M6 0 3))) (fun S8 => gd (vp_in (gI S8 0 7) 12) (bn (some (sI S8 3 (gI S8 0 7 : Int32).toNatClampNeg (nI fr))) (fun S10 => bn (some (sI S10 0 7 ((gI S10 0 7) + 1))) (fun S11 => gd (vp_in (gI S11 0 7) 13) (bn (some (sI S11 4 (gI S11 0 7 : Int32).toNatClampNeg (gI S11 0 26))) (fun S13 => some ((gI S13 0 7) - 1, S13))))))))) = some (nI a, sI (sI (sI (sI M6 2 a (gI M6 0 3)) 3 a (nI fr)) 0 7 (nI (a + 1))) 4 (a + 1) (gI M6 0 26)) := by
      have z1 : gI (sI M6 2 a (gI M6 0 3)) 0 7 = nI a := by rw [sI_ne (by decide)]; exact q7
      have z2 : gI (sI (sI M6 2 a (gI M6 0 3)) 3 a (nI fr)) 0 7 = nI a := by rw [sI_ne (by decide)]; exact z1
      have z3 : gI (sI (sI (sI M6 2 a (gI M6 0 3)) 3 a (nI fr)) 0 7 (nI (a + 1))) 0 26 = gI M6 0 26 := by rw [sI_nk (by decide), sI_ne (by decide), sI_ne (by decide)]
      have z4 : gI (sI (sI (sI (sI M6 2 a (gI M6 0 3)) 3 a (nI fr)) 0 7 (nI (a + 1))) 4 (a + 1) (gI M6 0 26)) 0 7 = nI (a + 1) := by rw [sI_ne (by decide), sI_eq]
      rw [q7, gd_t f12, fa, bn_s, z1, gd_t f12, fa, bn_s, bn_s, z2, show nI a + 1 = nI (a + 1) by rw [n_lit, n_add], sI_eq, gd_t f13, fa1, z3, bn_s, z4, show nI (a + 1) - 1 = nI a by rw [n_lit, n_sub (by omega)]; rfl]
    rw [hM]
    generalize hM13 : sI (sI (sI (sI M6 2 a (gI M6 0 3)) 3 a (nI fr)) 0 7 (nI (a + 1))) 4 (a + 1) (gI M6 0 26) = M' at *
    have t7 : gI M' 0 7 = nI (a + 1) := by rw [← hM13, sI_ne (by decide), sI_eq]
    have t0 : ∀ j, j ≠ 7 → gI M' 0 j = gI M6 0 j := fun j z => by rw [← hM13, sI_ne (by decide), sI_nk z, sI_ne (by decide), sI_ne (by decide)]
    have tc : ∀ c, c ≠ 0 → c ≠ 2 → c ≠ 3 → c ≠ 4 → gI M' c = gI M6 c := fun c z0 z2 z3 z4 => by rw [← hM13, sI_ne z4, sI_ne z0, sI_ne z3, sI_ne z2]
    have t2 : ∀ j, j ≠ a → gI M' 2 j = gI M6 2 j := fun j z => by rw [← hM13, sI_ne (by decide), sI_ne (by decide), sI_ne (by decide), sI_nk z]
    have t3 : ∀ j, j ≠ a → gI M' 3 j = gI M6 3 j := fun j z => by rw [← hM13, sI_ne (by decide), sI_ne (by decide), sI_nk z, sI_ne (by decide)]
    have t4 : ∀ j, j ≠ a + 1 → gI M' 4 j = gI M6 4 j := fun j z => by rw [← hM13, sI_nk z, sI_ne (by decide), sI_ne (by decide), sI_ne (by decide)]
    have t2a : gI M' 2 a = gI M6 0 3 := by rw [← hM13, sI_ne (by decide), sI_ne (by decide), sI_ne (by decide), sI_eq]
    have t3a : gI M' 3 a = nI fr := by rw [← hM13, sI_ne (by decide), sI_ne (by decide), sI_eq]
    have t4a : gI M' 4 (a + 1) = nI (F + ys.length) := by rw [← hM13, sI_eq, M60 26 (by decide) (by decide), j7]
    have tJ : gJ M' = gJ M6 := by rw [← hM13]; rfl
    -- the class's object
    have e13 : gI (aN S6 1 0) 0 13 = gI M0 0 3 := by rw [gI_aN, if_neg (by omega), sI0 13 (by decide)]; exact e.2.1
    have ko : gK (aN S6 1 0) o = 1 := by rw [gK_aN, if_pos ho.symm]
    have hin : fn_X0_init o (nI a) (nI fr) (gI (aN S6 1 0) 0 13) l (aN S6 1 0) = some (sR (sI (sI (sI (aN S6 1 0) o 0 (nI a)) o 1 (nI fr)) o 2 (gI M0 0 3)) o 3 (some l)) := by
      unfold fn_X0_init
      rw [e13]
      simp only [gK_sI, gK_sR, ko, gd_T, bn_s]
    generalize hS12 : sR (sI (sI (sI (aN S6 1 0) o 0 (nI a)) o 1 (nI fr)) o 2 (gI M0 0 3)) o 3 (some l) = S12 at *
    have gI12 : ∀ b, b ≠ o → gI S12 b = gI S6 b := fun b hb => by
      rw [← hS12, gI_sR, sI_ne hb, sI_ne hb, sI_ne hb]
      funext j; rw [gI_aN, if_neg (by omega)]
    have gR12 : ∀ b, b ≠ o → gR S12 b = gR S6 b := fun b hb => by
      rw [← hS12]; funext j; rw [gR_sR, if_neg (fun z => hb z.1)]; show gR (aN S6 1 0) b j = _; rw [gR_aN, if_neg (by omega)]
    have gJ12 : ∀ b, b ≠ o → gJ S12 b = gJ S6 b := fun b hb => by
      rw [← hS12]; funext j; show gJ (aN S6 1 0) b j = _; rw [gJ_aN, if_neg (by omega)]
    have gK12 : ∀ b, gK S12 b = if b = o then 1 else gK S6 b := fun b => by
      rw [← hS12]; show gK (aN S6 1 0) b = _; rw [gK_aN, ho]
    have gN12 : ∀ b, b ≠ o → gN S12 b = gN S6 b := fun b hb => by
      rw [← hS12]; show gN (aN S6 1 0) b = _; rw [gN_aN, if_neg (by omega)]
    have gZ12 : gZ S12 = o + 1 := by rw [← hS12]; show gZ S6 + 1 = _; rw [ho]
    have o12 : gR S12 o 3 = some l := by rw [← hS12, gR_sR, if_pos ⟨rfl, rfl⟩]
    have o0 : gI S12 o 0 = nI a := by rw [← hS12, gI_sR, sI_nk (by decide), sI_nk (by decide), sI_eq]
    have o1 : gI S12 o 1 = nI fr := by rw [← hS12, gI_sR, sI_nk (by decide), sI_eq]
    have o2 : gI S12 o 2 = gI M0 0 3 := by rw [← hS12, gI_sR, sI_eq]
    have hC12 : hC S12 := by
      refine ⟨by rw [gZ12]; omega, fun c hc => ?_, fun c hc => ?_, fun q hq => ?_, fun c hc hc2 => ?_⟩
      · rw [gK12, if_neg (by omega)]; exact hC6.2.1 c hc
      · rw [gN12 c (by omega)]; exact hC6.2.2.1 c hc
      · have := (RCl_k q hq).1
        rw [gR12 q.1 (by omega)]; exact hC6.2.2.2.1 q hq
      · rw [gK12, if_neg (by omega)]; exact hC6.2.2.2.2 c hc hc2
    have hF12 : hFr S12 := fun b hb => by rw [gZ12] at hb; rw [gK12, if_neg (by omega)]; exact hFr6 b (by omega)
    have hfr := d.2.1
    have a5 := d.2.2.2.2.1
    have a6 := d.2.2.2.2.2.1
    have dl : ∀ dd, gK SC dd = 25 → dd < l := fun dd h => by rw [← hl]; exact lt_Z hfr h (by decide)
    have r4 : gR S12 4 = gR SC 4 := by rw [gR12 4 (by omega), (sOb 4 (by omega)).1]
    have r5 : gR S12 5 = gR SC 5 := by rw [gR12 5 (by omega), (sOb 5 (by omega)).1]
    have hJ4 : JG S12 4 80 (LA.map oA) := JG_ext hfr a5 (by rw [gK12, if_neg (by omega), (sOb 4 (by omega)).2.2.1]; exact k4) (by rw [gI12 4 (by omega), sIb 4 (by omega) (by decide) (by decide) (by decide)]) (by rw [r4]) (fun b hb => ⟨by rw [gK12, if_neg (by omega), (sOb b (by omega)).2.2.1], by rw [gN12 b (by omega), (sOb b (by omega)).2.2.2]⟩) (fun dd hdd => by
      have := dl dd (JG_k a5 dd hdd).1
      rw [gR12 dd (by omega), (sOb dd this).1])
    have hpl := placeA_C (S := S12) (LA := LA) (oA := oA) (f := qF M0) hJ4 (by omega) (fun x hx => by
      have lx : x < a := by rw [← ha]; exact List.mem_range.mp (d.2.2.2.1.1.mem_iff.mp hx)
      obtain ⟨b1, b2, b3, b4, _⟩ := d.2.2.2.2.2.2.2.1 x (by omega)
      have hxl : oA x < l := by rw [← hl]; exact lt_Z hfr b2 (by decide)
      have v3 := n_of_in (hd.2.2.2.1 x (by omega))
      exact ⟨by rw [gK12, if_neg (by omega), (sOb _ hxl).2.2.1]; exact b2, by rw [gI12 _ (by omega), sIb _ hxl (by omega) (by omega) (by omega), b4]; exact v3.1, v3.2⟩) d.2.2.2.1.2.1 lf
    have li := cLt_le (f := qF M0) (l := LA) (d := fr + 1)
    obtain ⟨S15, u1, u2, u3⟩ := addAt_J (e := o) (i := cLt (qF M0) LA (fr + 1)) hJ4 (Or.inl (by rw [gK12, if_pos rfl])) (by decide) (by decide) (by rw [List.length_map]; omega) (by rw [gZ12]; omega) (by rw [gZ12]; omega) hF12 (by rw [List.length_map]; exact li)
    obtain ⟨f1, f2, f3, f4, f5, f6, f7, f8, f9⟩ := u3
    have sz8 : fl_size 4 (aN S6 1 0) = some (nI a, aN S6 1 0) := by
      rw [fz (by rw [gK_aN, if_neg (by omega), (sOb 4 (by omega)).2.2.1]; exact k4), gI_aN, if_neg (by omega), sIb 4 (by omega) (by decide) (by decide) (by decide), s4, e7]
    have kl : gK S15 l = 0 := by rw [f4 l (by omega), gK12, if_neg (by omega)]; exact j3.1
    have il : gI S15 l 2 = nI ys.length := by rw [f1 l (by omega) (by omega), gI12 l (by omega)]; exact j3.2.1
    have k15 : gK S15 o = 1 := by rw [f4 o (by omega), gK12, if_pos rfl]
    have i15o : gI S15 o = gI S12 o := f1 o (by omega) (by omega)
    have i150 : gI S15 0 = gI S6 0 := by rw [f1 0 (by omega) (by decide), gI12 0 (by omega)]
    have i15 : gI S15 0 15 = nI F := by
      rw [i150, sI0 15 (by decide), e.2.2.2.1, ha]; exact e4
    have hCl : (bn2 (fl_size 4 (aN S6 1 0)) (fun r10 S9 => bn (some l) (fun c11 => bn (fn_X0_init o r10 (nI fr) (gI S9 0 13) c11 S9) (fun S12 => bn2 (fn_X8_placeOfAgreement (nI fr) S12) (fun r14 S13 => bn (fl_addAt 4 r14 o 80 S13) (fun S15 => bn (some l) (fun c16 => gd (gK S15 c16 = 0) (bn2 (fl_size c16 S15) (fun r19 S18 => bn (some (sI S18 0 15 ((gI S15 0 15) + r19))) (fun S20 => gd (gK S20 o = 1) (some (gI S20 o 0, S20)))))))))))) = some (nI a, sI S15 0 15 (nI (F + ys.length))) := by
      rw [sz8, bn2_s, bn_s, hin, bn_s, hpl, bn2_s, u1, bn_s, bn_s, gd_t kl, fz kl, bn2_s, bn_s, gd_t (by rw [gK_sI]; exact k15), i15, il, n_add, sI_ne (show o ≠ 0 by omega), i15o, o0]
    rw [hCl]
    generalize hS' : sI S15 0 15 (nI (F + ys.length)) = S' at *
    have sI' : ∀ b, b ≠ 0 → gI S' b = gI S15 b := fun b z => by rw [← hS', sI_ne z]
    have s0' : ∀ j, j ≠ 15 → gI S' 0 j = gI S6 0 j := fun j z => by rw [← hS', sI_nk z, i150]
    have s15' : gI S' 0 15 = nI (F + ys.length) := by rw [← hS', sI_eq]
    have sR' : gR S' = gR S15 := by rw [← hS']; rfl
    have sJ' : gJ S' = gJ S15 := by rw [← hS']; rfl
    have sK' : gK S' = gK S15 := by rw [← hS']; rfl
    have sN' : gN S' = gN S15 := by rw [← hS']; rfl
    have sZ' : gZ S' = gZ S15 := by rw [← hS']; rfl
    have hC' : hC S' := by rw [← hS']; exact hC_sI (f8 hC12)
    have hFr' : hFr S' := by rw [← hS']; exact f9 hF12
    have hJ' : JG S' 4 80 (insL (LA.map oA) (cLt (qF M0) LA (fr + 1)) o) := by
      refine ⟨by rw [sK']; exact u2.1, by rw [sI' 4 (by decide)]; exact u2.2.1, ?_⟩
      have := u2.2.2
      unfold hEl at *
      rw [sR', sK', sN']; exact this
    -- what lies below the object, and is no array of the agreements' list
    have low : ∀ b, b < o → b ≠ 4 → b ≠ 0 → gI S' b = gI S6 b := fun b z1 z2 z3 => by rw [sI' b z3, f1 b (by omega) z2, gI12 b (by omega)]
    have lowR : ∀ b, b < o → b ≠ 4 → gR SC 4 1 ≠ some b → gR S' b = gR S6 b := fun b z1 z2 z3 => by rw [sR', f2 b (by omega) z2 (by rw [r4]; exact z3), gR12 b (by omega)]
    have lowK : ∀ b, b < o → gK S' b = gK S6 b := fun b z => by rw [sK', f4 b (by omega), gK12, if_neg (by omega)]
    have lowN : ∀ b, b < o → gN S' b = gN S6 b := fun b z => by rw [sN', f5 b (by omega), gN12 b (by omega)]
    have n4 : ∀ dd, gR S' 4 1 = some dd → gR SC 4 1 = some dd ∨ dd = o + 1 := fun dd hdd => by
      rw [sR'] at hdd
      rcases f7 with q | q
      · left; rw [q, r4] at hdd; exact hdd
      · right; rw [q, gZ12] at hdd; injection hdd with hdd; exact hdd.symm
    have r5' : gR S' 5 = gR SC 5 := by
      rw [lowR 5 (by omega) (by decide) (fun z => by have := (JG_k a5 5 z).2; omega), (sOb 5 (by omega)).1]
    have hEX : EX SC S' := by
      intro b hb
      rw [hl] at hb
      refine ⟨by rw [lowK b (by omega), (sOb b hb).2.2.1], by rw [lowN b (by omega), (sOb b hb).2.2.2], fun h65 => by rw [low b (by omega) (by omega) (by omega), sIb b hb (by omega) (by omega) (by omega)], fun h65 h4 h5 => by rw [lowR b (by omega) (by omega) h4, (sOb b hb).1]⟩
    have hLK : ∀ c, gK S6 c = 3 ∨ gK S6 c = 21 → gI S' c = gI S6 c ∧ gR S' c = gR S6 c ∧ gK S' c = gK S6 c ∧ gN S' c = gN S6 c := by
      intro c hkc
      have cz : c < o := by
        rw [← ho]
        rcases hkc with h | h
        · exact lt_Z hFr6 h (by decide)
        · exact lt_Z hFr6 h (by decide)
      have cz0 : c ≠ 0 := by intro z; rw [z, hCk hC6 0 (by decide) (κ := 9) rfl] at hkc; omega
      have cz4 : c ≠ 4 := by intro z; rw [z, hCk hC6 4 (by decide) (κ := 0) rfl] at hkc; omega
      refine ⟨low c cz cz4 cz0, lowR c cz cz4 (fun z => ?_), lowK c cz, lowN c cz⟩
      have h25 := (JG_k a5 c z).1
      rw [(sOb c (dl c h25)).2.2.1, h25] at hkc
      omega
    have qa' : qA M' = a + 1 := by unfold qA; rw [t7, n_cl (by omega)]
    have qLa : qL M' a = F := by unfold qL; rw [t4 a (by omega), mc 4 (by omega) (by decide)]; exact hFF
    have qLb : qL M' (a + 1) = F + ys.length := by unfold qL; rw [t4a, n_cl (by omega)]
    refine ⟨_, _, _, rfl, rfl, ?_, _, NL, _, _, oN, DRel_agree (ys := ys) (o := o) (fr := fr) (F := F) (a := a) d ha hFF (fun c j z1 z2 z3 z4 => ?_) (fun j z => ?_) (fun j z => ?_) (fun j z => ?_) (fun j z => ?_) (fun c z1 z2 => ?_) ?_ ?_ hEX ?_ la t7 t3a lf t4a ly hC' hFr' ?_ ?_ ?_ r5' ?_ hJ' ?_ ?_⟩
    · refine ERel_mk e (fun b z1 z2 z3 z4 z5 z6 => by rw [low b (by omega) z5 z2, sIb b (by omega) z2 z3 z4]) (fun b z => by rw [sJ', f3 b (by omega), gJ12 b (by omega), (sOb b (by omega)).2.1]) (by rw [s0' 13 (by decide), sI0 13 (by decide)]) (by rw [s0' 17 (by decide), sI0 17 (by decide)]) (by rw [s0' 14 (by decide), sI14, t0 2 (by decide), m02]) (by rw [t0 2 (by decide), m02]; exact (n_in (a := 0) (by omega)).mpr (by omega)) (by rw [qa', t4a, s15']) (by rw [low 2 (by omega) (by decide) (by decide), g6, t0 24 (by decide), M624]) (by rw [low 2 (by omega) (by decide) (by decide), g7, t0 25 (by decide), M625]) (fun j z => by rw [t0 j (by omega), m0 j (by omega) (by omega) (by omega)]) (by rw [tc 1 (by decide) (by decide) (by decide) (by decide), mc 1 (by omega) (by decide)]) (fun c z1 z2 => by rw [tc c (by omega) (by omega) (by omega) (by omega), mc c (by omega) (by omega)]) (by rw [tJ, mJ])
    · rw [tc c (by omega) (by omega) (by omega) (by omega)]; exact mcj c j z1 z2 z3 z4
    · rw [tc 12 (by decide) (by decide) (by decide) (by decide)]; exact m12 j z
    · rw [t2 j (by omega), mc 2 (by omega) (by decide)]
    · rw [t3 j (by omega), mc 3 (by omega) (by decide)]
    · rw [t4 j (by omega), mc 4 (by omega) (by decide)]
    · rw [tc c (by omega) (by omega) (by omega) (by omega), mc c (by omega) (by omega)]
    · rw [t0 28 (by decide), m0 28 (by decide) (by decide) (by omega)]
    · rw [t0 34 (by decide), m0 34 (by decide) (by decide) (by omega)]
    · intro dd hdd
      rcases n4 dd hdd with q | q
      · exact Or.inl q
      · right; omega
    · rw [s0' 16 (by decide), sI0 16 (by decide)]
    · rw [low 6 (by omega) (by decide) (by decide), sIb 6 (by omega) (by decide) (by decide) (by decide)]
    · rw [low 5 (by omega) (by decide) (by decide), sIb 5 (by omega) (by decide) (by decide) (by decide)]
    · intro dd hdd
      have h65 := JG_k a6 dd hdd
      have hdl := dl dd h65.1
      rw [lowR dd (by omega) (by omega) (fun z => d.2.2.2.2.2.2.1 dd z hdd), (sOb dd hdl).1]
    · -- the new agreement
      have n4o : gR SC 4 1 ≠ some l := fun z => by have := dl l (JG_k a5 l z).1; omega
      have hRo : gR S' o 3 = some l := by
        rw [sR', f2 o (by omega) (by omega) (by rw [r4]; intro z; have := dl o (JG_k a5 o z).1; omega)]; exact o12
      refine ⟨by omega, by rw [sK']; exact k15, by rw [sI' o (by omega), i15o, o0], by rw [sI' o (by omega), i15o, o1, t3a], by rw [sI' o (by omega), i15o, o2, t2a, m0 3 (by decide) (by decide) (by omega)], l, hRo, hZ, by rw [sK']; exact kl, by rw [sI' l (by omega), il, qLb, qLa, show F + ys.length - F = ys.length by omega], ?_⟩
      rw [qLa, qLb]
      rcases j3.2.2 with ⟨y1, y2⟩ | ⟨dd, y1, y2, y3, y4, y5, y6, y7, y8⟩
      · refine ⟨gZ S', hC'.1, fun z => ?_, fun z => ?_, fun n h1 h2 => ?_⟩
        · have := lt_Z hFr' (JG_k hJ' _ z).1 (by decide); omega
        · rw [r5'] at z
          have := dl _ (JG_k a6 _ z).1
          have hzz : o ≤ gZ S' := by rw [sZ']; omega
          omega
        · rw [y2] at h2; simp at h2; omega
      · have ldd := j4 dd y1
        have ddo : dd < o := by rw [← ho]; exact lt_Z hFr6 y3 (by decide)
        refine ⟨dd, y2, fun z => ?_, fun z => ?_, fun n h1 h2 => ?_⟩
        · rcases n4 dd z with q | q
          · have := dl dd (JG_k a5 dd q).1; omega
          · omega
        · rw [r5'] at z
          have := dl dd (JG_k a6 dd z).1; omega
        · refine ⟨by rw [lowR l hlz (by omega) n4o]; exact y1, by rw [lowK dd ddo]; exact y3, by rw [lowN dd ddo]; omega, ?_⟩
          show gR S' dd (n - F) = some (if n < F then oL n else ys.getD (n - F) 0)
          rw [if_neg (by omega), lowR dd ddo (by omega) (fun z => by have := dl dd (JG_k a5 dd z).1; omega)]
          exact y8 (n - F) (by omega)
    · intro i hi
      obtain ⟨w1, w2, w3⟩ := j5 i hi
      have hm : ∀ c, 5 ≤ c → c ≤ 13 → c ≠ 12 → gI M' c (F + i) = gI M4 c (F + i) := fun c z1 z2 z3 => by rw [tc c (by omega) (by omega) (by omega) (by omega), M6c c (by omega)]
      have hm12 : ∀ j, j < 8 → gI M' 12 (8 * (F + i) + j) = gI M4 12 (8 * (F + i) + j) := fun j hj => by rw [tc 12 (by decide) (by decide) (by decide) (by decide), M6c 12 (by decide)]
      exact ⟨LRel_tr hLK hm hm12 w2 w1, LOK_tr hm hm12 w2⟩
  · -- the text is refused
    have c6' : gI M6 0 22 ≠ 0 := by rw [M60 22 (by decide) (by decide)]; exact cf
    rw [cd_f (by rw [g6]; exact cf), cd_f c6']
    refine ⟨_, _, _, rfl, rfl, ?_, LA, NL, oA, oL, oN, DRel_fault d ha hFF mcj m12 (mc 2 (by omega) (by decide)) (mc 3 (by omega) (by decide)) (mc 4 (by omega) (by decide)) (fun c z1 z2 => mc c (by omega) (by omega)) (m0 7 (by decide) (by decide) (by omega)) (m0 28 (by decide) (by decide) (by omega)) (m0 34 (by decide) (by decide) (by omega)) hl hIF⟩
    exact ERel_mk e (fun b z1 z2 z3 z4 z5 z6 => sIb b (by omega) z2 z3 z4) (fun b z => (sOb b (by omega)).2.1) (sI0 13 (by decide)) (sI0 17 (by decide)) (sI14.trans m02.symm) (by rw [m02]; exact (n_in (a := 0) (by omega)).mpr (by omega)) (by rw [sI0 15 (by decide), e.2.2.2.1, ha, qa6, mc 4 (by omega) (by decide)]) (g6.trans M624.symm) (g7.trans M625.symm) (fun j z => m0 j (by omega) (by omega) (by omega)) (mc 1 (by omega) (by decide)) (fun c z1 z2 => mc c (by omega) (by omega)) mJ
