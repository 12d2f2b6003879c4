/-! one turn of both loops -/
theorem line_iter {b : Nat → Nat} {N F l : Nat} {xs : List Nat} {S0 D S M : HS} {ca sl m m' : Nat} (hl : 65 ≤ l) (hlz : l < gZ S) (hI : INV F l xs S0 D S M) (lc : xs.length ≤ 40) (hF : F + 40 ≤ 480) (hx : PX S M b N) (h5 : gI S 2 5 ≠ 259) (hca : ca ≤ 1 + 3 * xs.length) (hsl : sl ≤ 3 + 98 * xs.length) :
    ∃ S' M' ca' sl', fn_X4_read_15 (m + 1) l (nI xs.length) ca sl S = fn_X4_read_15 m l (nI (xs.length + 1)) ca' sl' S' ∧ fn_X9_parses_34 (m' + 1) (nI F) M = fn_X9_parses_34 m' (nI F) M' ∧ ((∃ o, PX S' M' b N ∧ INV F l (xs ++ [o]) S0 D S' M' ∧ l < gZ S' ∧ xs.length < 40 ∧ ca' = ca + 3 ∧ sl' = sl + 98) ∨ (PF S' M' b N ∧ INVF l S0 S' ∧ MB F D M')) := by
  have hx0 := hx
  have hI0 := hI
  obtain ⟨st, a1, a2, a3, a4, a5⟩ := hx
  obtain ⟨i1, i2, i3, i4, i5, i6, i7⟩ := hI
  generalize hcnt : xs.length = cnt at *
  have e3 : gI S 2 3 = gI M 0 19 := a1.2.2.2.1.trans a2.2.1.symm
  have h20 : gI M 0 20 ≠ 5 := fun z => h5 ((end_iff a1 a2).mpr z)
  have hsize : fl_size l S = some (nI cnt, S) := by
    unfold fl_size; rw [gd_t i3.1, i3.2.1, hcnt]
  have hC : fn_X4_read_15 (m + 1) l (nI cnt) ca sl S = bn2 (fn_X4_takeFirstWord (nI cnt) S) (fun r6 S5 => cd (r6 = (-1)) (fn_X4_read_106 (fn_X4_read_15 m) l (nI cnt) ca sl S5) (cd (r6 = 6) (gd (ca + 2 ≤ 130 ∧ sl + 18 ≤ 4100) (bn2 (fn_X4_readEnd S5) (fun r12 S10 => fn_X4_read_80 (fn_X4_read_15 m) l (nI cnt) (gI S 2 3) r12 (ca + 2) (sl + 18) S10))) (gd (ca + 2 ≤ 130 ∧ sl + 18 ≤ 4100) (bn2 (fn_X4_readBody r6 S5) (fun r9 S7 => fn_X4_read_80 (fn_X4_read_15 m) l (nI cnt) (gI S 2 3) r9 (ca + 2) (sl + 18) S7))))) := by
    rw [fn_X4_read_15, cd_f (by rw [n_lit, n_lt (by omega) (by omega)]; omega), cd_t a3, cd_f h5, bn_s, gd_t i3.1, hsize, bn2_s]
  have hM : fn_X9_parses_34 (m' + 1) (nI F) M = bn (bn (fn_X9_line (nI F) M) (fun S1 => fn_X9_wants 59 S1)) (fun S2 => fn_X9_parses_34 m' (nI F) S2) := by
    rw [fn_X9_parses_34, cd_t a4, cd_f h20]
    cases fn_X9_line (nI F) M <;> rfl
  -- a fault in the first word
  have hbad : ∀ k : Int32, k ≠ 0 → (∀ S', fn_X4_refuse k (gI S 2 3) S = some S' → fn_X4_takeFirstWord (nI cnt) S = some (-1, S')) → (∀ M', fn_X9_wrong k (gI M 0 19) M = some M' → fn_X9_line (nI F) M = some M') → ∃ S' M' ca' sl', fn_X4_read_15 (m + 1) l (nI cnt) ca sl S = fn_X4_read_15 m l (nI (cnt + 1)) ca' sl' S' ∧ fn_X9_parses_34 (m' + 1) (nI F) M = fn_X9_parses_34 m' (nI F) M' ∧ ((∃ o, PX S' M' b N ∧ INV F l (xs ++ [o]) S0 D S' M' ∧ l < gZ S' ∧ cnt < 40 ∧ ca' = ca + 3 ∧ sl' = sl + 98) ∨ (PF S' M' b N ∧ INVF l S0 S' ∧ MB F D M')) := by
    intro k hk g1 g2
    obtain ⟨S5, M5, y1, y2, y3, y4, y5⟩ := ref2 (k := k) hk e3 (Or.inl hx0)
    obtain ⟨T1, u1, u2, u3, u4⟩ := PF_sgn (c := 59) (by decide) y5
    refine ⟨S5, M5, ca, sl, ?_, ?_, Or.inr ⟨y5, INVF_z i1 y3.z hlz, i2.o y4.o (Nat.le_refl F)⟩⟩
    · rw [hC, g1 S5 y1, bn2_s, cd_t rfl]
      unfold fn_X4_read_106
      rw [bn_s, show nI cnt + 1 = nI (cnt + 1) by rw [n_lit, n_add]]
    · rw [hM, g2 M5 y2, bn_s, show fn_X9_wants 59 M5 = some M5 from u4, bn_s]
  rcases wordOf_C a1 with ⟨v, lv, q1, q2, q3⟩ | ⟨q1, q3⟩
  · obtain ⟨z1, z2⟩ := (word_iff a1 a2 (w := v) (by omega)).mp ⟨q1, q2⟩
    have hv7 : gI M 0 21 ≠ 7 := by rw [z2, n_lit, Ne, n_eq (by omega) (by omega)]; omega
    have hd : gI M 0 26 - nI F = nI cnt := by rw [i7, n_sub (by omega), show F + cnt - F = cnt by omega]
    by_cases lc4 : cnt = 40
    · refine hbad 2 (by decide) (fun S' h => ?_) (fun M' h => ?_)
      · unfold fn_X4_takeFirstWord
        rw [q3, bn2_s, cd_f (n_neg1 (by omega)), cd_f (by rw [n_lit, n_lt (by omega) (by omega)]; omega), h, bn_s]
      · unfold fn_X9_line
        rw [bn_s, cd_t z1, cd_f hv7, hd, cd_t (by rw [n_lit, n_eq (by omega) (by omega)]; exact lc4), h, bn_s]
    · have lc' : cnt < 40 := by omega
      have f1 : vp_in (nI (F + cnt)) 481 := (n_in (by omega)).mpr (by omega)
      have f2 : (nI (F + cnt)).toNatClampNeg = F + cnt := n_cl (by omega)
      generalize hn : F + cnt = n at *
      have hgen : ∀ y0 : Int32, (y0 = 0 ∨ y0 = 1) → (nI v = 6 → y0 = 1) → (nI v ≠ 6 → y0 = 0) → ∃ S' M' ca' sl', fn_X4_read_15 (m + 1) l (nI cnt) ca sl S = fn_X4_read_15 m l (nI (cnt + 1)) ca' sl' S' ∧ bn (fn_X9_line_74 (nI F) (gI M 0 19) (nI n) (nI v) y0 (nI n) M) (fun S1 => fn_X9_wants 59 S1) = some M' ∧ ((∃ o, PX S' M' b N ∧ INV F l (xs ++ [o]) S0 D S' M' ∧ l < gZ S' ∧ cnt < 40 ∧ ca' = ca + 3 ∧ sl' = sl + 98) ∨ (PF S' M' b N ∧ INVF l S0 S' ∧ MB F D M')) := by
        intro y0 hy0 hy6 hyn
        have hxa : PX S (sI (sI (sI M 6 n y0) 7 n (-1)) 11 n 0) b N := PZ_x (PZ_m (by decide) (by decide) (PZ_m (by decide) (by decide) (PZ_m (by decide) (by decide) (Or.inl hx0)))) (by rw [sI_ne (by decide), sI_ne (by decide), sI_ne (by decide)]; exact a4)
        have hmo : MO n M (sI (sI (sI M 6 n y0) 7 n (-1)) 11 n 0) := ((MO_s (by decide) (by decide)).tr (MO_s (by decide) (by decide))).tr (MO_s (by decide) (by decide))
        obtain ⟨S1, Mb, y1, y2, y3, y4, y5⟩ := adv2 hxa
        have b6 : gI Mb 6 n = y0 := by rw [y4.1 6 (by decide), sI_ne (by decide), sI_ne (by decide), sI_eq]
        have b7 : gI Mb 7 n = -1 := by rw [y4.1 7 (by decide), sI_ne (by decide), sI_eq]
        have b11 : gI Mb 11 n = 0 := by rw [y4.1 11 (by decide), sI_eq]
        have hZ1 : gZ S1 = gZ S := y3.2.2.2.2.2.2
        have htfw : fn_X4_takeFirstWord (nI cnt) S = some (nI v, S1) := by
          unfold fn_X4_takeFirstWord
          rw [q3, bn2_s, cd_f (n_neg1 (by omega)), cd_t (by rw [n_lit, n_lt (by omega) (by omega)]; exact lc'), y1, bn_s]
        have hcap : ca + 2 ≤ 130 ∧ sl + 18 ≤ 4100 := by omega
        have hcap2 : ca + 2 + 1 ≤ 130 ∧ sl + 18 + 80 ≤ 4100 := by omega
        have hfin : ∀ (o so nm : Nat) (S3 M3 : HS), FZ S1 S3 → MO n Mb M3 → gZ S1 ≤ o → gK S3 o = 3 → so < 6 → nm < 256 → gI S3 o 0 = nI so → gI S3 o 4 = nI nm → PZ S3 M3 b N → (gI M3 0 22 = 0 → nm < 26 ∧ gI M3 5 n = nI (26 * so + nm) ∧ LRel S3 M3 o n ∧ LOK M3 n) → ∃ S' M', fn_X4_read_80 (fn_X4_read_15 m) l (nI cnt) (gI S 2 3) (some o) (ca + 2) (sl + 18) S3 = fn_X4_read_15 m l (nI (cnt + 1)) (ca + 2 + 1) (sl + 18 + 80) S' ∧ bn (fn_X9_line_264 (nI F) (gI S 2 3) (nI n) M3) (fun S1 => fn_X9_wants 59 S1) = some M' ∧ ((PX S' M' b N ∧ INV F l (xs ++ [o]) S0 D S' M' ∧ l < gZ S') ∨ (PF S' M' b N ∧ INVF l S0 S' ∧ MB F D M')) := by
          intro o so nm S3 M3 w1 w2 w3 w4 w5 w6 w7 w8 w9 w10
          subst hn
          exact tail_iter hl hlz hI0 hcnt lc' hF (y3.z.tr w1) ((hmo.tr y4.o).tr w2) (by omega) w4 w7 w5 w8 w6 w9 w10 hcap2 rfl
        have h74 : fn_X9_line_74 (nI F) (gI M 0 19) (nI n) (nI v) y0 (nI n) M = cd (nI v = 6) (cd ((gI Mb 0 20) = 0) (cd ((gI Mb 0 21) ≤ 2) (fn_X9_line_123 (nI F) (gI M 0 19) (nI n) Mb) (cd ((gI Mb 0 21) = 5) (fn_X9_line_123 (nI F) (gI M 0 19) (nI n) Mb) (fn_X9_line_130 (nI F) (gI M 0 19) (nI n) Mb))) (fn_X9_line_130 (nI F) (gI M 0 19) (nI n) Mb)) (cd (nI v = 3) (fn_X9_line_185 (nI F) (gI M 0 19) (nI n) (nI v) Mb) (cd (nI v = 4) (fn_X9_line_185 (nI F) (gI M 0 19) (nI n) (nI v) Mb) (bn2 (fn_X9_takes 1 Mb) (fun r10 S9 => gd (vp_in (nI n) 481) (bn (some (sI S9 5 (nI n).toNatClampNeg ((26 * nI v) + r10))) (fun S12 => bn (fn_X9_named (nI n) (nI v) S12) (fun S13 => fn_X9_line_264 (nI F) (gI M 0 19) (nI n) S13))))))) := by
          unfold fn_X9_line_74
          rw [gd_t f1, gd_t hy0, f2, bn_s, gd_t f1, bn_s, gd_t f1, bn_s, y2, bn_s]
        by_cases cv : nI v = 6
        · obtain ⟨o, S3, M3, g1, g2, g3, g4, g5, g6, so, nm, g7, g8, g9, g10, g11, g12⟩ := end_line (n := n) (by omega) (by omega) (b6.trans (hy6 cv)) b7 y5
          obtain ⟨R, r1, r2⟩ := g2 (nI F) (gI M 0 19)
          obtain ⟨S', M', t1, t2, t3⟩ := hfin o so nm S3 M3 g3 g4 g5 g6 g7 g8 g9 g10 g11 g12
          refine ⟨S', M', ca + 3, sl + 98, ?_, ?_, t3.imp (fun t => ⟨o, t.1, t.2.1, t.2.2, lc', rfl, rfl⟩) id⟩
          · rw [hC, htfw, bn2_s, cd_f (n_neg1 (by omega)), cd_t cv, gd_t hcap, g1, bn2_s]; exact t1
          · rw [h74, cd_t cv, r1, r2, ← e3]; exact t2
        · have lv6 : v < 6 := by
            rcases Nat.lt_or_ge v 6 with q | q
            · exact q
            · exact absurd (show nI v = 6 by rw [show v = 6 by omega]; rfl) cv
          obtain ⟨o, S3, M3, g1, g2, g3, g4, g5, g6, so, nm, g7, g8, g9, g10, g11, g12⟩ := body_line (n := n) lv6 (by omega) (by omega) (b6.trans (hyn cv)) b7 b11 y5
          obtain ⟨S', M', t1, t2, t3⟩ := hfin o so nm S3 M3 g3 g4 g5 g6 g7 g8 g9 g10 g11 g12
          refine ⟨S', M', ca + 3, sl + 98, ?_, ?_, t3.imp (fun t => ⟨o, t.1, t.2.1, t.2.2, lc', rfl, rfl⟩) id⟩
          · rw [hC, htfw, bn2_s, cd_f (n_neg1 (by omega)), cd_f cv, gd_t hcap, g1, bn2_s]; exact t1
          · rw [h74, cd_f cv, g2, ← e3]; exact t2
      have hln : fn_X9_line (nI F) M = cd (nI v = 6) (fn_X9_line_74 (nI F) (gI M 0 19) (nI n) (nI v) 1 (nI n) M) (fn_X9_line_74 (nI F) (gI M 0 19) (nI n) (nI v) 0 (nI n) M) := by
        unfold fn_X9_line
        rw [bn_s, cd_t z1, cd_f hv7, hd, cd_f (by rw [n_lit, n_eq (by omega) (by omega)]; exact lc4), bn_s, bn_s, i7, z2]
      by_cases cv : nI v = 6
      · obtain ⟨S', M', ca', sl', t1, t2, t3⟩ := hgen 1 (Or.inr rfl) (fun _ => rfl) (fun z => absurd cv z)
        exact ⟨S', M', ca', sl', t1, by rw [hM, hln, cd_t cv, t2, bn_s], t3⟩
      · obtain ⟨S', M', ca', sl', t1, t2, t3⟩ := hgen 0 (Or.inl rfl) (fun z => absurd z cv) (fun _ => rfl)
        exact ⟨S', M', ca', sl', t1, by rw [hM, hln, cd_f cv, t2, bn_s], t3⟩
  · refine hbad 1 (by decide) (fun S' h => ?_) (fun M' h => ?_)
    · unfold fn_X4_takeFirstWord
      rw [q3, bn2_s, cd_t rfl, h, bn_s]
    · unfold fn_X9_line fn_X9_line_21
      rw [bn_s]
      by_cases z1 : gI M 0 20 = 0
      · have h7 : gI M 0 21 = 7 := by
          rcases a2.2.2.2 with ⟨v1, v2⟩ | ⟨v1, v2, v3, v4⟩ | ⟨v1, v2, v3, v4⟩ | ⟨v1, v2, v3, v4⟩ | ⟨v1, v2, v3, v4, v5, v6⟩
          · rw [z1] at v2; exact absurd v2 (by decide)
          · rcases v4 with ⟨_, q, _⟩ | ⟨_, q, _⟩ | ⟨_, _, q⟩ <;> rw [z1] at q <;> exact absurd q (by decide)
          · rcases v4 with ⟨w, lw, hw, _, q⟩ | ⟨_, q⟩
            · have : ¬ w < 7 := fun z => q1 w z ⟨(kd_L a1.1 a1.2.1 a1.2.2.1).1.mpr ⟨v1, v2⟩, hw⟩
              rw [q, show w = 7 by omega]; rfl
            · rw [z1] at q; exact absurd q (by decide)
          · rw [z1] at v3; exact absurd v3 (by decide)
          · rcases v6 with ⟨_, q⟩ | ⟨_, q⟩ <;> rw [z1] at q <;> exact absurd q (by decide)
        rw [cd_t z1, cd_t h7, h, bn_s]
      · rw [cd_f z1, h, bn_s]
/-- both loops, to their end -/
theorem read_loop {b : Nat → Nat} {N F l : Nat} {S0 D : HS} (hl : 65 ≤ l) (hF : F + 40 ≤ 480) : ∀ (i : Nat) (xs : List Nat) (S M : HS) (ca sl m m' : Nat), xs.length + i = 40 → i + 3 < m → i + 3 < m' → l < gZ S → INV F l xs S0 D S M → PX S M b N → ca ≤ 1 + 3 * xs.length → sl ≤ 3 + 98 * xs.length →
    ∃ S' M', fn_X4_read_15 m l (nI xs.length) ca sl S = some (some l, S') ∧ fn_X9_parses_34 m' (nI F) M = some M' ∧ ((∃ ys, ys.length ≤ 40 ∧ PX S' M' b N ∧ INV F l ys S0 D S' M' ∧ l < gZ S') ∨ (PF S' M' b N ∧ INVF l S0 S' ∧ MB F D M')) := by
  intro i
  induction i with
  | zero =>
    intro xs S M ca sl m m' hi h1 h2 hlz hI hx hca hsl
    obtain ⟨m, rfl⟩ : ∃ q, m = q + 2 := ⟨m - 2, by omega⟩
    obtain ⟨m', rfl⟩ : ∃ q, m' = q + 2 := ⟨m' - 2, by omega⟩
    have hx0 := hx
    obtain ⟨st, a1, a2, a3, a4, a5⟩ := hx
    by_cases h5 : gI S 2 5 = 259
    · refine ⟨S, M, ?_, ?_, Or.inl ⟨xs, by omega, hx0, hI, hlz⟩⟩
      · rw [fn_X4_read_15, cd_f (by rw [n_lit, n_lt (by omega) (by omega)]; omega), cd_t a3, cd_t h5]; rfl
      · rw [fn_X9_parses_34, cd_t a4, cd_t ((end_iff a1 a2).mp h5)]; rfl
    · obtain ⟨S', M', ca', sl', t1, t2, t3⟩ := line_iter (m := m + 1) (m' := m' + 1) hl hlz hI (by omega) hF hx0 h5 hca hsl
      rcases t3 with ⟨o, _, _, _, t4, _⟩ | ⟨t3, t4, t5⟩
      · omega
      · refine ⟨S', M', ?_, ?_, Or.inr ⟨t3, t4, t5⟩⟩
        · rw [t1, fn_X4_read_15, cd_t (by rw [n_lit, n_lt (by omega) (by omega)]; omega)]; rfl
        · rw [t2, fn_X9_parses_34, cd_f t3.2.2.2.1]; rfl
  | succ i ih =>
    intro xs S M ca sl m m' hi h1 h2 hlz hI hx hca hsl
    obtain ⟨m, rfl⟩ : ∃ q, m = q + 2 := ⟨m - 2, by omega⟩
    obtain ⟨m', rfl⟩ : ∃ q, m' = q + 2 := ⟨m' - 2, by omega⟩
    have hx0 := hx
    obtain ⟨st, a1, a2, a3, a4, a5⟩ := hx
    by_cases h5 : gI S 2 5 = 259
    · refine ⟨S, M, ?_, ?_, Or.inl ⟨xs, by omega, hx0, hI, hlz⟩⟩
      · rw [fn_X4_read_15, cd_f (by rw [n_lit, n_lt (by omega) (by omega)]; omega), cd_t a3, cd_t h5]; rfl
      · rw [fn_X9_parses_34, cd_t a4, cd_t ((end_iff a1 a2).mp h5)]; rfl
    · obtain ⟨S', M', ca', sl', t1, t2, t3⟩ := line_iter (m := m + 1) (m' := m' + 1) hl hlz hI (by omega) hF hx0 h5 hca hsl
      rcases t3 with ⟨o, t3, t4, t5, t6, t7, t8⟩ | ⟨t3, t4, t5⟩
      · have el : (xs ++ [o]).length = xs.length + 1 := by rw [List.length_append, List.length_singleton]
        obtain ⟨S2, M2, w1, w2, w3⟩ := ih (xs ++ [o]) S' M' ca' sl' (m + 1) (m' + 1) (by omega) (by omega) (by omega) t5 t4 t3 (by omega) (by omega)
        rw [el] at w1
        exact ⟨S2, M2, t1.trans w1, t2.trans w2, w3⟩
      · refine ⟨S', M', ?_, ?_, Or.inr ⟨t3, t4, t5⟩⟩
        · rw [t1, fn_X4_read_15, cd_f (by rw [n_lit, n_lt (by omega) (by omega)]; omega), cd_f (by rw [t3.2.2.1]; exact t3.2.2.2.1)]; rfl
        · rw [t2, fn_X9_parses_34, cd_f t3.2.2.2.1]; rfl
