/-! an ordinary line; one turn of both loops -/
/-- behind a fault, the reference keeps it -/
theorem wants_keep {c : Int32} {M M' : HS} (h : gI M 0 22 ≠ 0) (h2 : fn_X9_wants c M = some M') : M' = M := by
  unfold fn_X9_wants fn_X9_wants_24 fn_X9_isSign fn_X9_isSign_27 fn_X9_isSign_28 fn_X9_wrong at h2
  rw [cd_f h, gd_t (Or.inl rfl), bn2_s, cd_t rfl, cd_f h, bn_s] at h2
  injection h2 with h2
  exact h2.symm
theorem takes_keep {c r : Int32} {M M' : HS} (h : gI M 0 22 ≠ 0) (h2 : fn_X9_takes c M = some (r, M')) : M' = M := by
  unfold fn_X9_takes at h2
  rw [cd_f h] at h2
  injection h2 with h2
  injection h2 with _ h2
  exact h2.symm
theorem named_keep (x k : Int32) (M M' : HS) (h : gI M 0 22 ≠ 0) (h2 : fn_X9_named x k M = some M') : gI M' 0 22 ≠ 0 := by
  have hs : ∀ (M : HS) (c j : Nat) (v : Int32), c ≠ 0 → gI M 0 22 ≠ 0 → gI (sI M c j v) 0 22 ≠ 0 := fun M c j v hc hm => by rw [sI_ne (Ne.symm hc)]; exact hm
  have ht : ∀ (M : HS) (c : Int32), gI M 0 22 ≠ 0 → fn_X9_takes c M = some (0, M) := fun M c hm => by unfold fn_X9_takes; rw [cd_f hm]
  have hw : ∀ (M : HS) (c : Int32), gI M 0 22 ≠ 0 → fn_X9_wants c M = some M := fun M c hm => by
    unfold fn_X9_wants fn_X9_wants_24 fn_X9_isSign fn_X9_isSign_27 fn_X9_isSign_28 fn_X9_wrong
    rw [cd_f hm, gd_t (Or.inl rfl), bn2_s, cd_t rfl, cd_f hm, bn_s]
  have h51 : ∀ M M', gI M 0 22 ≠ 0 → fn_X9_named_51 x M = some M' → gI M' 0 22 ≠ 0 := fun M M' hm h2 => by
    unfold fn_X9_named_51 fn_X9_named_197 at h2
    rw [ht M 3 hm, bn2_s] at h2
    obtain ⟨_, h2⟩ := gd_ok h2
    rw [bn_s] at h2
    injection h2 with h2
    rw [← h2]; exact hs M 10 _ _ (by decide) hm
  have h133 : ∀ M M', gI M 0 22 ≠ 0 → fn_X9_named_133 x k M = some M' → gI M' 0 22 ≠ 0 := fun M M' hm h2 => by
    unfold fn_X9_named_133 fn_X9_named_164 at h2
    rw [hw M 61 hm, bn_s, ht M 3 hm, bn2_s] at h2
    obtain ⟨_, h2⟩ := gd_ok h2
    rw [bn_s] at h2
    have hm2 := hs M 10 x.toNatClampNeg 0 (by decide) hm
    have hsg : fn_X9_isSign 37 (sI M 10 x.toNatClampNeg 0) = some (0, sI M 10 x.toNatClampNeg 0) := by
      unfold fn_X9_isSign fn_X9_isSign_27 fn_X9_isSign_28
      rw [cd_f hm2, gd_t (Or.inl rfl)]
    by_cases c : k = 5
    · rw [cd_t c, hsg, bn2_s, cd_t rfl] at h2
      injection h2 with h2
      rw [← h2]; exact hm2
    · rw [cd_f c] at h2
      injection h2 with h2
      rw [← h2]; exact hm2
  unfold fn_X9_named at h2
  by_cases c1 : k = 1
  · rw [cd_t c1, cd_f h] at h2
    unfold fn_X9_named_40 at h2
    rw [cd_f h] at h2
    exact h51 M M' h h2
  rw [cd_f c1] at h2
  by_cases c2 : k = 2
  · rw [cd_t c2, hw M 58 h, bn_s] at h2
    obtain ⟨_, h2⟩ := gd_ok h2
    rw [bn_s] at h2
    have hm2 := hs M 13 x.toNatClampNeg 0 (by decide) h
    have hsc : fn_X9_scaleNumber x (sI M 13 x.toNatClampNeg 0) = some (sI M 13 x.toNatClampNeg 0) := by
      unfold fn_X9_scaleNumber fn_X9_scaleNumber_35
      rw [cd_f hm2, ht _ 3 hm2, bn2_s, cd_f hm2]
    rw [hsc, bn_s, show hFuel = 4999 + 1 from rfl, sign44 hm2] at h2
    injection h2 with h2
    rw [← h2]; exact hm2
  rw [cd_f c2] at h2
  by_cases c0 : k = 0
  · rw [cd_t c0] at h2
    unfold fn_X9_named_128 fn_X9_factOf at h2
    rw [ht M 2 h, bn2_s] at h2
    obtain ⟨M1, h3, h4⟩ := bn_ok h2
    obtain ⟨_, h3⟩ := gd_ok h3
    have hm2 := hs M 7 x.toNatClampNeg 0 (by decide) h
    rw [bn_s, cd_f hm2] at h3
    injection h3 with h3
    rw [← h3] at h4
    exact h133 _ M' hm2 h4
  rw [cd_f c0, cd_f h] at h2
  exact h133 M M' h h2
theorem body_line {b : Nat → Nat} {N n v : Nat} {S1 M2 : HS} (lv : v < 6) (hn : n < 480) (hZ : 65 ≤ gZ S1) (m6 : gI M2 6 n = 0) (m7 : gI M2 7 n = -1) (m11 : gI M2 11 n = 0) (hx : PX S1 M2 b N) : ∃ o S3 M3, fn_X4_readBody (nI v) S1 = some (some o, S3) ∧ (∀ x1 x2, (cd (nI v = 3) (fn_X9_line_185 x1 x2 (nI n) (nI v) M2) (cd (nI v = 4) (fn_X9_line_185 x1 x2 (nI n) (nI v) M2) (bn2 (fn_X9_takes 1 M2) (fun r10 S9 => gd (vp_in (nI n) 481) (bn (some (sI S9 5 (nI n).toNatClampNeg ((26 * nI v) + r10))) (fun S12 => bn (fn_X9_named (nI n) (nI v) S12) (fun S13 => fn_X9_line_264 x1 x2 (nI n) S13))))))) = fn_X9_line_264 x1 x2 (nI n) M3) ∧ FZ S1 S3 ∧ MO n M2 M3 ∧ gZ S1 ≤ o ∧ gK S3 o = 3 ∧ (∃ so nm, so < 6 ∧ nm < 256 ∧ gI S3 o 0 = nI so ∧ gI S3 o 4 = nI nm ∧ PZ S3 M3 b N ∧ (gI M3 0 22 = 0 → nm < 26 ∧ gI M3 5 n = nI (26 * so + nm) ∧ LRel S3 M3 o n ∧ LOK M3 n)) := by
  have f1 : vp_in (nI n) 481 := (n_in (by omega)).mpr (by omega)
  have f2 : (nI n).toNatClampNeg = n := n_cl (by omega)
  obtain ⟨S2, q1, q2, q3, q4, q5, q6, q7, q8, q9, q10, q11, q12, q13⟩ := newL (S := S1) (x1 := nI v) (x2 := 0) (Or.inl rfl)
  generalize ho : gZ S1 = o at *
  have hz2 : PZ S2 M2 b N := PZ_z (by rw [(q11 1 (by omega)).1]) (by rw [(q11 2 (by omega)).1]) (Or.inl hx)
  have hfz2 : FZ S1 S2 := ⟨fun c h1 _ => (q11 c (by omega)).1, fun c h1 => (q11 c (by omega)).2, by omega, q12, q13⟩
  have h26 : ∀ k : Nat, 26 * nI v + nI k = nI (26 * v + k) := fun k => by rw [n_lit, n_mul, n_add]
  -- what a body gives
  have hfin : ∀ (S4 M4 S5 M5 : HS) (nm : Nat), FZ S1 S4 → MO n M2 M4 → gK S4 o = 3 → gI S4 o 0 = nI v → gI S4 o 1 = 0 → gI S4 o 4 = nI nm → nm < 256 → (v = 3 → nm = 0) → gI M4 6 n = 0 → gR S4 = gR S2 → gK S4 = gK S2 → gN S4 = gN S2 → BO o (o + 1) n S4 S5 M4 M5 → PZ S5 M5 b N → (gI M5 0 22 = 0 → nm < 26 ∧ gI M4 5 n = nI (26 * v + nm)) → (gI M5 0 22 = 0 → LNf o (o + 1) n v S5 M5) → FZ S1 S5 ∧ MO n M2 M5 ∧ gK S5 o = 3 ∧ (∃ so nm, so < 6 ∧ nm < 256 ∧ gI S5 o 0 = nI so ∧ gI S5 o 4 = nI nm ∧ PZ S5 M5 b N ∧ (gI M5 0 22 = 0 → nm < 26 ∧ gI M5 5 n = nI (26 * so + nm) ∧ LRel S5 M5 o n ∧ LOK M5 n)) := by
    intro S4 M4 S5 M5 nm g1 g2 g3 g4 g5 g6 g7 g8 g9 g10 g11 g12 hb hz hk hl
    obtain ⟨c1, c2, ⟨c3, c4, c5⟩, c6, c7⟩ := hb
    have k5 : gK S5 o = 3 := by rw [c1.2.2.2.2.1]; exact g3
    refine ⟨c1.z g1 (by omega) (by omega), g2.tr c2, k5, v, nm, lv, g7, by rw [c3]; exact g4, by rw [c5]; exact g6, hz, fun z => ?_⟩
    obtain ⟨ln, e5⟩ := hk z
    have e5' : gI M5 5 n = nI (26 * v + nm) := by rw [c6]; exact e5
    obtain ⟨r1, r2⟩ := mkL (e := o + 1) (by omega : 65 ≤ o) k5 lv ln (by rw [c3]; exact g4) (by rw [c4]; exact g5) (by rw [c5]; exact g6) e5' (by rw [c7]; exact g9) (hl z) (fun hv => ⟨by rw [c1.2.2.1, g10]; exact q6, by omega, by rw [c1.2.2.2.2.1, g11]; exact q4, by rw [c1.2.2.2.2.2.1, g12, q5, if_pos ⟨by rw [hv]; rfl, rfl⟩]⟩) g8
    exact ⟨ln, e5', r1, r2⟩
  by_cases hv34 : v = 3 ∨ v = 4
  · obtain ⟨S5, M5, p1, p2, p3, p4, p5⟩ := body_num (e := o + 1) (n := n) (k := v) (ca := 2) (sl := 18) (S := S2) (M := sI M2 5 n (26 * nI v)) hv34 (by omega) (by omega) q3 q9 (q10 9 (by decide) (by decide) (by decide)) (by rw [sI_ne (by decide)]; exact m7) (by rw [sI_ne (by decide)]; exact m11) (PZ_m (by decide) (by decide) hz2)
    have h0 : 26 * nI v = nI (26 * v + 0) := by rw [n_lit, n_mul]; rfl
    obtain ⟨r1, r2, r3, r4⟩ := hfin S2 (sI M2 5 n (26 * nI v)) S5 M5 0 hfz2 (MO_s (by omega) (by decide)) q3 q7 q8 (q10 4 (by decide) (by decide) (by decide)) (by decide) (fun _ => rfl) (by rw [sI_ne (by decide)]; exact m6) rfl rfl rfl p3 p4 (fun _ => ⟨by decide, by rw [sI_eq, h0]⟩) p5
    refine ⟨o, S5, M5, ?_, fun x1 x2 => ?_, r1, r2, by omega, r3, r4⟩
    · unfold fn_X4_readBody
      rw [bn_s, ho, q1, bn_s]
      rcases hv34 with rfl | rfl
      · rw [cd_t (show nI 3 = 3 from rfl), p1]
      · rw [cd_f (by decide), cd_t (show nI 4 = 4 from rfl), p1]
    · have h185 : fn_X9_line_185 x1 x2 (nI n) (nI v) M2 = fn_X9_line_264 x1 x2 (nI n) M5 := by
        unfold fn_X9_line_185
        rw [gd_t f1, f2, bn_s]
        exact p2 x1 x2
      rcases hv34 with rfl | rfl
      · rw [cd_t (show nI 3 = 3 from rfl), h185]
      · rw [cd_f (by decide), cd_t (show nI 4 = 4 from rfl), h185]
  · have n3 : ¬ nI v = 3 := by rw [n_lit, n_eq (by omega) (by omega)]; omega
    have n4 : ¬ nI v = 4 := by rw [n_lit, n_eq (by omega) (by omega)]; omega
    obtain ⟨r, S3, r', M3, w1, w2, w3, w4, w5, w6, nm, lnm, enm⟩ := let2 (lo := 97) (hi := 122) (wa := 1) (Or.inl ⟨rfl, rfl, rfl⟩) hz2
    have hz4 : PZ (sI S3 o 4 r) (sI M3 5 n (26 * nI v + r')) b N := PZ_m (by decide) (by decide) (PZ_c (by omega) (by omega) w5)
    have k4 : gK (sI S3 o 4 r) o = 3 := by show gK S3 o = 3; rw [w3.2.2.2.2.1]; exact q3
    have oj : ∀ j, j ≠ 4 → gI (sI S3 o 4 r) o j = gI S2 o j := fun j hj => by rw [sI_nk hj, w3.1 o (by omega)]
    have t7 : gI (sI M3 5 n (26 * nI v + r')) 7 n = -1 := by rw [sI_ne (by decide), w4.1 7 (by decide)]; exact m7
    have t11 : gI (sI M3 5 n (26 * nI v + r')) 11 n = 0 := by rw [sI_ne (by decide), w4.1 11 (by decide)]; exact m11
    have s5 : gI (sI S3 o 4 r) o 5 = -1 := by rw [oj 5 (by decide)]; exact q9
    have s9 : gI (sI S3 o 4 r) o 9 = 0 := by rw [oj 9 (by decide)]; exact q10 9 (by decide) (by decide) (by decide)
    have hbody : ∃ S5 M5, fn_X4_readBody_32 (nI v) o 2 18 (sI S3 o 4 r) = some (some o, S5) ∧ fn_X9_named (nI n) (nI v) (sI M3 5 n (26 * nI v + r')) = some M5 ∧ BO o (o + 1) n (sI S3 o 4 r) S5 (sI M3 5 n (26 * nI v + r')) M5 ∧ PZ S5 M5 b N ∧ (gI M5 0 22 = 0 → LNf o (o + 1) n v S5 M5) ∧ (gI M5 0 22 = 0 → gI M3 0 22 = 0) := by
      have hback : ∀ (S5 M5 : HS), fn_X9_named (nI n) (nI v) (sI M3 5 n (26 * nI v + r')) = some M5 → PZ S5 M5 b N → gI M5 0 22 = 0 → gI M3 0 22 = 0 := by
        intro S5 M5 hM hz z
        by_cases c : gI M3 0 22 = 0
        · exact c
        · exfalso
          -- behind a fault the reference keeps it
          have hf : PF (sI S3 o 4 r) (sI M3 5 n (26 * nI v + r')) b N := by
            rcases hz4 with q | q
            · obtain ⟨_, _, _, _, z, _⟩ := q; rw [sI_ne (by decide)] at z; exact absurd z c
            · exact q
          exact named_keep (nI n) (nI v) _ _ hf.2.2.2.1 hM z
      rcases (by omega : v = 0 ∨ v = 1 ∨ v = 2 ∨ v = 5) with rfl | rfl | rfl | rfl
      · obtain ⟨S5, M5, p1, p2, p3, p4, p5⟩ := body_test (e := o + 1) (n := n) (ca := 2) (sl := 18) (by omega) (by omega) k4 s9 t11 hz4
        exact ⟨S5, M5, p1, p2, p3, p4, p5, hback S5 M5 p2 p4⟩
      · obtain ⟨S5, M5, p1, p2, p3, p4, p5⟩ := body_grade (e := o + 1) (n := n) (ca := 2) (sl := 18) (by omega) (by omega) k4 s5 s9 t7 t11 hz4
        exact ⟨S5, M5, p1, p2, p3, p4, p5, hback S5 M5 p2 p4⟩
      · obtain ⟨S5, M5, p1, p2, p3, p4, p5⟩ := body_scale (e := o + 1) (n := n) (ca := 2) (sl := 18) (by omega) (by omega) (by omega) hn k4 (by show gR S3 o 2 = _; rw [w3.2.2.1]; exact q6) (by show gK S3 (o + 1) = _; rw [w3.2.2.2.2.1]; exact q4) (by show gN S3 (o + 1) = _; rw [w3.2.2.2.2.2.1, q5, if_pos ⟨rfl, rfl⟩]) (by rw [oj 3 (by decide)]; exact q10 3 (by decide) (by decide) (by decide)) s5 s9 t7 t11 hz4
        exact ⟨S5, M5, p1, p2, p3, p4, p5, hback S5 M5 p2 p4⟩
      · obtain ⟨S5, M5, p1, p2, p3, p4, p5⟩ := body_plus (e := o + 1) (n := n) (ca := 2) (sl := 18) (by omega) (by omega) k4 s5 s9 t7 t11 hz4
        exact ⟨S5, M5, p1, p2, p3, p4, p5, hback S5 M5 p2 p4⟩
    obtain ⟨S5, M5, p1, p2, p3, p4, p5, p6⟩ := hbody
    have hfz4 : FZ S1 (sI S3 o 4 r) := by
      obtain ⟨b1, b2, b3, b4, b5⟩ := hfz2.tr w3.z
      exact ⟨fun c z1 z2 => (sI_ne (by omega)).trans (b1 c z1 z2), b2, b3, fun h => hC_sI (b4 h), b5⟩
    obtain ⟨r1, r2, r3, r4⟩ := hfin (sI S3 o 4 r) (sI M3 5 n (26 * nI v + r')) S5 M5 nm hfz4 (w4.o.tr (MO_s (by omega) (by decide))) k4 (by rw [oj 0 (by decide)]; exact q7) (by rw [oj 1 (by decide)]; exact q8) (by rw [sI_eq, enm]) lnm (fun z => by omega) (by rw [sI_ne (by decide), w4.1 6 (by decide)]; exact m6) w3.2.2.1 w3.2.2.2.2.1 w3.2.2.2.2.2.1 p3 p4 (fun z => by
      obtain ⟨x, lx, e1, e2⟩ := w6 (p6 z)
      have : nm = x := (n_eq (by omega) (by omega)).mp (enm.symm.trans e1)
      subst this
      exact ⟨by omega, by rw [sI_eq, e2, h26]⟩) p5
    refine ⟨o, S5, M5, ?_, fun x1 x2 => ?_, r1, r2, by omega, r3, r4⟩
    · unfold fn_X4_readBody
      rw [bn_s, ho, q1, bn_s, cd_f n3, cd_f n4, show fn_X4_takeLetter 97 122 S2 = some (r, S3) from w1, bn2_s, gd_t (show gK S3 o = 3 from k4), bn_s, p1]
    · rw [cd_f n3, cd_f n4, w2, bn2_s, gd_t f1, f2, bn_s, p2, bn_s]
