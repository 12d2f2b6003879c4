/-! a plus; a new line's object -/
section PLUS
variable {b : Nat → Nat} {N : Nat}
theorem relnumF {o : Nat} {T M : HS} (ho : 65 ≤ o) (hT : gK T o = 3) (hf : PF T M b N) : ∃ T', (bn2 (fn_X4_takeRelation T) fun r6 S5 => gd (gK S5 o = 3) (bn (some (sI S5 o 6 r6)) fun S8 => bn2 (fn_X4_takeNumber S8) fun r10 S9 => gd (gK S9 o = 3) (bn (some (sI S9 o 7 r10)) fun S12 => some S12))) = some T' ∧ CO o o T T' ∧ (∀ j, j ≠ 5 → j ≠ 6 → j ≠ 7 → gI T' o j = gI T o j) ∧ PF T' M b N := by
  obtain ⟨r6, T1, u1, u2, u3⟩ := PF_rel hf
  obtain ⟨r10, T2, w1, w2, w3⟩ := PF_num (PF_sI (j := 6) (v := r6) (by omega : o ≠ 1) (by omega : o ≠ 2) u3)
  refine ⟨sI T2 o 7 r10, ?_, ((u2.o.tr (CO_o (by omega))).tr w2.o).tr (CO_o (by omega)), fun j z1 z2 z3 => ?_, PF_sI (by omega) (by omega) w3⟩
  · rw [u1, bn2_s, gd_t (by rw [u2.2.2.2.2.1]; exact hT), bn_s, w1, bn2_s, gd_t (by rw [w2.2.2.2.2.1]; show gK T1 o = 3; rw [u2.2.2.2.2.1]; exact hT), bn_s]
  · rw [sI_nk z3, w2.1 o (by omega), sI_nk z2, u2.1 o (by omega)]
/-- a letter that is no fact, and what comes behind it, in the class -/
theorem condF {o : Nat} {S M S1 M1 : HS} {r : Int32} (ho : 65 ≤ o) (hk : gK S o = 3) (h1 : fn_X4_takeLetter 65 70 S = some (r, S1)) (hc : C2 S S1) (hf : PF S1 M1 b N) : ∃ S', fn_X4_readCondition o S = some S' ∧ CO o o S S' ∧ (∀ j, j ≠ 5 → j ≠ 6 → j ≠ 7 → gI S' o j = gI S o j) ∧ PF S' M1 b N := by
  have hk1 : gK S1 o = 3 := by rw [hc.2.2.2.2.1]; exact hk
  obtain ⟨T', u1, u2, u3, u4⟩ := relnumF (T := sI S1 o 5 r) ho hk1 (PF_sI (by omega) (by omega) hf)
  refine ⟨T', ?_, (hc.o.tr (CO_o (by omega))).tr u2, fun j z1 z2 z3 => ?_, u4⟩
  · unfold fn_X4_readCondition
    rw [h1, bn2_s, gd_t hk1, bn_s]; exact u1
  · rw [u3 j z1 z2 z3, sI_nk z1, hc.1 o (by omega)]
theorem PF_let {lo hi : Nat} {wa : Int32} {S M : HS} (hw : (lo = 97 ∧ hi = 122 ∧ wa = 1) ∨ (lo = 65 ∧ hi = 70 ∧ wa = 2)) (h : PF S M b N) : ∃ r S', fn_X4_takeLetter (nI lo) (nI hi) S = some (r, S') ∧ C2 S S' ∧ PF S' M b N ∧ ∃ v, v < 256 ∧ r = nI v := by
  obtain ⟨r, S', r', M', q1, q2, q3, q4, q5, q6, q7⟩ := let2 hw (Or.inr h)
  have : fn_X9_takes wa M = some (0, M) := by unfold fn_X9_takes; rw [cd_f h.2.2.2.1]
  rw [this] at q2
  injection q2 with q2
  injection q2 with e1 e2
  subst e2
  rcases q5 with q5 | q5
  · obtain ⟨st, _, _, _, z, _⟩ := q5
    exact absurd z h.2.2.2.1
  · exact ⟨r, S', q1, q3, q5, q7⟩
theorem PF_sgn {c : Nat} {S M : HS} (hc : isS c = true) (h : PF S M b N) : ∃ S', fn_X4_takeSign (nI c) S = some S' ∧ C2 S S' ∧ PF S' M b N ∧ fn_X9_wants (nI c) M = some M := by
  obtain ⟨S', M', q1, q2, q3, q4, q5⟩ := sgn2 hc (Or.inr h)
  have hw : fn_X9_wants (nI c) M = some M := by
    unfold fn_X9_wants fn_X9_wants_24 fn_X9_isSign fn_X9_isSign_27 fn_X9_isSign_28
    rw [cd_f h.2.2.2.1, gd_t (Or.inl rfl), bn2_s, cd_t rfl, PF_w (by decide) h, bn_s]
  have q2' := q2
  rw [hw] at q2'
  injection q2' with e
  subst e
  rcases q5 with q5 | q5
  · obtain ⟨st, _, _, _, z, _⟩ := q5
    exact absurd z h.2.2.2.1
  · exact ⟨S', q1, q3, q5, hw⟩
/-- the number of a plus -/
theorem plusN {o e n ca sl : Nat} {S M : HS} (ho : 65 ≤ o) (hn : n < 481) (hk : gK S o = 3) (h : PZ S M b N) : ∃ S' M', fn_X4_readBody_153 o ca sl S = some (some o, S') ∧ fn_X9_named_133 (nI n) 5 M = some M' ∧ BO o e n S S' M M' ∧ (∀ j, j ≠ 8 → j ≠ 9 → gI S' o j = gI S o j) ∧ (∀ c, c ≠ 0 → c ≠ 10 → c ≠ 11 → gI M' c = gI M c) ∧ PZ S' M' b N ∧ (gI M' 0 22 = 0 → gI M 0 22 = 0 ∧ gI S' o 8 = gI M' 10 n ∧ vp_in (gI M' 10 n) 10000 ∧ ((gI S' o 9 = gI S o 9 ∧ gI M' 11 n = gI M 11 n) ∨ (gI S' o 9 = 1 ∧ gI M' 11 n = 1 ∧ vp_in (gI M' 10 n) 1000))) := by
  have f1 : vp_in (nI n) 481 := (n_in (by omega)).mpr hn
  have f2 : (nI n).toNatClampNeg = n := n_cl (by omega)
  obtain ⟨S2, M2', r1, r2, r3, r4, r5⟩ := sgn2 (c := 61) (by decide) h
  obtain ⟨r, S3, r', M3, w1, w2, w0, w3, w4, w5, w6, w7⟩ := numW (o := o) (e := e) (n := n) ho hn r5
  have k3 : gK S3 o = 3 := by rw [w0, r3.2.2.2.2.1]; exact hk
  have hbo := (BO_2 (e := e) (n := n) (by omega : o ≠ 2) r3 r4).tr w3
  have hoj : ∀ j, j ≠ 8 → gI (sI S3 o 8 r) o j = gI S o j := fun j hj => (w4 j hj).trans (by rw [r3.1 o (by omega)])
  have hmc : ∀ c, c ≠ 0 → c ≠ 10 → gI (sI M3 10 n r') c = gI M c := fun c z0 z1 => (w5 c z0 z1).trans (r4.1 c z0)
  have hC : fn_X4_readBody_153 o ca sl S = bn (cd (gI (sI S3 o 8 r) 2 5 = 37) (gd (gK (sI S3 o 8 r) o = 3) (cd (gI (sI S3 o 8 r) o 8 ≤ 999) (fn_X4_readPlusNumber_36 o (sI S3 o 8 r)) (bn (fn_X4_refuse 2 (gI (sI S3 o 8 r) 2 3) (sI S3 o 8 r)) (fun S6 => fn_X4_readPlusNumber_36 o S6)))) (some (sI S3 o 8 r))) (fun S2 => some (some o, S2)) := by
    unfold fn_X4_readBody_153 fn_X4_readBody_164 fn_X4_readPlusNumber fn_X4_readPlusNumber_45
    rw [show fn_X4_takeSign 61 S = some S2 from r1, bn_s, w1, bn2_s, gd_t k3, bn_s]
  have hR : fn_X9_named_133 (nI n) 5 M = bn2 (fn_X9_isSign 37 (sI M3 10 n r')) (fun r7 S6 => cd (r7 = 0) (some S6) (gd (vp_in (nI n) 481) (cd (gI S6 10 n ≤ 999) (fn_X9_named_186 (nI n) S6) (bn (fn_X9_wrong 2 (gI S6 0 19) S6) (fun S9 => fn_X9_named_186 (nI n) S9))))) := by
    unfold fn_X9_named_133 fn_X9_named_164
    rw [show fn_X9_wants 61 M = some M2' from r2, bn_s, w2, bn2_s, gd_t f1, f2, bn_s, cd_t rfl]
  rw [hC, hR]
  generalize hT : sI S3 o 8 r = T at *
  generalize hM4 : sI M3 10 n r' = M4 at *
  have kT : gK T o = 3 := by rw [← hT]; exact k3
  have hback : gI M4 0 22 = 0 → gI M 0 22 = 0 := fun z => by
    rw [← hM4, sI_ne (by decide)] at z
    exact PZ_back_sgn h r2 r5 (back_num w2 z)
  rcases w6 with hx | hf
  · have hx0 := hx
    obtain ⟨st, a1, a2, a3, a4, a5⟩ := hx
    have hi := sgn_iff a1 a2 (show isS 37 = true by decide)
    have e3 : gI T 2 3 = gI M4 0 19 := a1.2.2.2.1.trans a2.2.1.symm
    obtain ⟨d1, d2⟩ := w7 a4
    have hsg : fn_X9_isSign 37 M4 = some (if gI T 2 5 = 37 then 1 else 0, M4) := by
      unfold fn_X9_isSign fn_X9_isSign_27 fn_X9_isSign_28
      simp only [or_true, true_or, gd_T]
      rw [cd_t a4]
      by_cases q : gI T 2 5 = 37
      · rw [cd_t (hi.mp q).1, cd_t (show gI M4 0 21 = 37 from (hi.mp q).2), if_pos q]
      · rw [if_neg q]
        by_cases q1 : gI M4 0 20 = 4
        · rw [cd_t q1, cd_f (show ¬ gI M4 0 21 = 37 from fun q2 => q (hi.mpr ⟨q1, q2⟩))]
        · rw [cd_f q1]
    rw [hsg, bn2_s]
    by_cases q : gI T 2 5 = 37
    · rw [cd_t q, if_pos q, cd_f z10, gd_t kT, gd_t f1, d1]
      obtain ⟨v, lv, ev⟩ := n_ex d2
      by_cases c : gI M4 10 n ≤ 999
      · have hx1 : PX (sI T o 9 1) (sI M4 11 n 1) b N := PZ_x (PZ_m (by decide) (by decide) (PZ_c (by omega) (by omega) (Or.inl hx0))) (by rw [sI_ne (by decide)]; exact a4)
        obtain ⟨S', M', y1, y2, y3, y4, y5⟩ := adv2 hx1
        refine ⟨S', M', ?_, ?_, (hbo.tr ⟨CO_o (by omega), MO_s (by omega) (by decide), ⟨sI_nk (by decide), sI_nk (by decide), sI_nk (by decide)⟩, by rw [sI_ne (by decide)], by rw [sI_ne (by decide)]⟩).tr (BO_2 (by omega) y3 y4), fun j z8 z9 => ?_, fun c z0 z1 z2 => ?_, Or.inl y5, fun _ => ⟨hback a4, ?_, ?_, Or.inr ⟨?_, ?_, ?_⟩⟩⟩
        · rw [cd_t c]; unfold fn_X4_readPlusNumber_36 fn_X4_readPlusNumber_45; rw [gd_t kT, bn_s, y1, bn_s, bn_s]
        · rw [cd_t c]; unfold fn_X9_named_186 fn_X9_named_197; rw [gd_t f1, f2, bn_s, y2, bn_s]
        · rw [y3.1 o (by omega), sI_nk z9]; exact hoj j z8
        · rw [y4.1 c z0, sI_ne z2]; exact hmc c z0 z1
        · rw [y3.1 o (by omega), sI_nk (by decide), y4.1 10 (by decide), sI_ne (by decide)]; exact d1
        · rw [y4.1 10 (by decide), sI_ne (by decide)]; exact d2
        · rw [y3.1 o (by omega), sI_eq]
        · rw [y4.1 11 (by decide), sI_eq]
        · rw [y4.1 10 (by decide), sI_ne (by decide), ev, n_in (by omega)]
          rw [ev, n_lit, n_le (by omega) (by omega)] at c; omega
      · obtain ⟨S5, M5, y1, y2, y3, y4, y5⟩ := ref2 (k := 2) (by decide) e3 (Or.inl hx0)
        have hpf : PF (sI S5 o 9 1) M5 b N := PF_sI (by omega) (by omega) y5
        obtain ⟨st5, c5⟩ := hpf.1
        obtain ⟨S', u1, u2, u3, u4, u5⟩ := advF c5
        have h18 : gI M5 0 18 = nI (te b N st) := by
          have hwr : fn_X9_wrong 2 (gI M4 0 19) M4 = some (sI (sI M4 0 22 2) 0 23 (gI M4 0 19)) := by unfold fn_X9_wrong; rw [cd_t a4, bn_s, bn_s]
          rw [hwr] at y2
          injection y2 with y2
          rw [← y2, sI_nk (by decide), sI_nk (by decide)]; exact a2.2.2.1
        have hML : ML (sI M5 11 n 1) b N := by
          have := hpf.2.1
          unfold ML at *
          rw [sI_ne (by decide), sI_ne (by decide)]; exact this
        obtain ⟨M', v1, v2, v3, v4, _⟩ := next_M (M := sI M5 11 n 1) hML (te_b (b := b) a1.2.1).2 (by rw [sI_ne (by decide)]; exact h18)
        have hpf' : PF S' M' b N := ⟨⟨_, u5⟩, hML.keep v2, by rw [u3, v3, sI_ne (show 0 ≠ 11 by decide)]; exact hpf.2.2.1, by rw [v3, sI_ne (show 0 ≠ 11 by decide)]; exact hpf.2.2.2.1, by rw [u4, v4, sI_ne (show 0 ≠ 11 by decide)]; exact hpf.2.2.2.2⟩
        refine ⟨S', M', ?_, ?_, ((hbo.tr (BO_2 (by omega) y3 y4)).tr ⟨CO_o (by omega), MO_s (by omega) (by decide), ⟨sI_nk (by decide), sI_nk (by decide), sI_nk (by decide)⟩, by rw [sI_ne (by decide)], by rw [sI_ne (by decide)]⟩).tr (BO_2 (by omega) u2 v2), fun j z8 z9 => ?_, fun c z0 z1 z2 => ?_, Or.inr hpf', fun z => absurd z hpf'.2.2.2.1⟩
        · rw [cd_f c, y1, bn_s]; unfold fn_X4_readPlusNumber_36 fn_X4_readPlusNumber_45; rw [gd_t (by rw [y3.2.2.2.2.1]; exact kT), bn_s, u1, bn_s, bn_s]
        · rw [cd_f c, y2, bn_s]; unfold fn_X9_named_186 fn_X9_named_197; rw [gd_t f1, f2, bn_s, v1, bn_s]
        · rw [u2.1 o (by omega), sI_nk z9, y3.1 o (by omega)]; exact hoj j z8
        · rw [v2.1 c z0, sI_ne z2, y4.1 c z0]; exact hmc c z0 z1
    · rw [cd_f q, if_neg q, cd_t rfl, bn_s]
      exact ⟨T, M4, rfl, rfl, hbo, fun j z8 _ => hoj j z8, fun c z0 z1 _ => hmc c z0 z1, Or.inl hx0, fun _ => ⟨hback a4, d1, d2, Or.inl ⟨hoj 9 (by decide), by rw [hmc 11 (by decide) (by decide)]⟩⟩⟩
  · have hsg : fn_X9_isSign 37 M4 = some (0, M4) := by
      unfold fn_X9_isSign fn_X9_isSign_27 fn_X9_isSign_28
      rw [cd_f hf.2.2.2.1, gd_t (Or.inl rfl)]
    rw [hsg, bn2_s, cd_t rfl]
    by_cases q : gI T 2 5 = 37
    · have hpf : PF (sI T o 9 1) M4 b N := PF_sI (by omega) (by omega) hf
      obtain ⟨st5, c5⟩ := hpf.1
      obtain ⟨S', u1, u2, u3, u4, u5⟩ := advF c5
      refine ⟨S', M4, ?_, rfl, hbo.tr ⟨(CO_o (by omega)).tr u2.o, MO.rf, ⟨by rw [u2.1 o (by omega), sI_nk (by decide)], by rw [u2.1 o (by omega), sI_nk (by decide)], by rw [u2.1 o (by omega), sI_nk (by decide)]⟩, rfl, rfl⟩, fun j z8 z9 => by rw [u2.1 o (by omega), sI_nk z9]; exact hoj j z8, fun c z0 z1 _ => hmc c z0 z1, Or.inr (PF_C hpf ⟨_, u5⟩ u3 u4), fun z => absurd z hf.2.2.2.1⟩
      rw [cd_t q, gd_t kT, PF_r (by decide) hf, bn_s]
      have h36 : fn_X4_readPlusNumber_36 o T = some S' := by unfold fn_X4_readPlusNumber_36 fn_X4_readPlusNumber_45; rw [gd_t kT, bn_s, u1, bn_s]
      rw [h36]
      by_cases w : gI T o 8 ≤ 999
      · rw [cd_t w, bn_s]
      · rw [cd_f w, bn_s]
    · exact ⟨T, M4, by rw [cd_f q, bn_s], rfl, hbo, fun j z8 _ => hoj j z8, fun c z0 z1 _ => hmc c z0 z1, Or.inr hf, fun z => absurd z hf.2.2.2.1⟩
theorem body_plus {o e n ca sl : Nat} {S M : HS} (ho : 65 ≤ o) (hn : n < 481) (hk : gK S o = 3) (h5 : gI S o 5 = -1) (h9 : gI S o 9 = 0) (h7 : gI M 7 n = -1) (h11 : gI M 11 n = 0) (h : PZ S M b N) : ∃ S' M', fn_X4_readBody_32 5 o ca sl S = some (some o, S') ∧ fn_X9_named (nI n) 5 M = some M' ∧ BO o e n S S' M M' ∧ PZ S' M' b N ∧ (gI M' 0 22 = 0 → LNf o e n 5 S' M') := by
  have hC : fn_X4_readBody_32 5 o ca sl S = cd (gI S 2 5 = 257) (bn (fn_X4_readCondition o S) (fun S19 => fn_X4_readBody_153 o ca sl S19)) (fn_X4_readBody_153 o ca sl S) := by
    unfold fn_X4_readBody_32
    rw [cd_f (by decide), cd_f (by decide), cd_f (by decide), cd_f (by decide), cd_f (by decide)]
  have hR : fn_X9_named (nI n) 5 M = cd (gI M 0 22 = 0) (cd (gI M 0 20 = 2) (fn_X9_named_128 (nI n) 5 M) (fn_X9_named_133 (nI n) 5 M)) (fn_X9_named_133 (nI n) 5 M) := by
    unfold fn_X9_named
    rw [cd_f (by decide), cd_f (by decide), cd_f (by decide)]
  -- without a condition
  have hplain : PZ S M b N → ∃ S' M', fn_X4_readBody_153 o ca sl S = some (some o, S') ∧ fn_X9_named_133 (nI n) 5 M = some M' ∧ BO o e n S S' M M' ∧ PZ S' M' b N ∧ (gI M' 0 22 = 0 → LNf o e n 5 S' M') := by
    intro hz
    obtain ⟨S', M', p1, p2, p3, p4, p5, p6, p7⟩ := plusN (e := e) (ca := ca) (sl := sl) ho hn hk hz
    refine ⟨S', M', p1, p2, p3, p6, fun z => ?_⟩
    obtain ⟨_, t2, t3, t4⟩ := p7 z
    have e7 : gI M' 7 n = -1 := by rw [p5 7 (by decide) (by decide) (by decide)]; exact h7
    refine ⟨by rw [p4 5 (by decide) (by decide), h5, e7], Or.inl e7, fun z1 => absurd e7 z1, fun _ => ⟨t2, t3⟩, ?_, ?_, ?_, fun z1 => absurd z1 (by decide), fun z1 => absurd z1 (by decide)⟩
    · rcases t4 with ⟨u1, u2⟩ | ⟨u1, u2, _⟩
      · rw [u1, u2, h9, h11]
      · rw [u1, u2]
    · rcases t4 with ⟨u1, u2⟩ | ⟨u1, u2, _⟩
      · exact Or.inl (u2.trans h11)
      · exact Or.inr u2
    · intro z1
      rcases t4 with ⟨u1, u2⟩ | ⟨u1, u2, u3⟩
      · exact absurd ((u2.trans h11).symm.trans z1) (by decide)
      · exact u3
  rw [hC, hR]
  rcases h with hx | hf
  · have hx0 := hx
    obtain ⟨st, a1, a2, a3, a4, a5⟩ := hx
    have hi := let_iff a1 a2 (lo := 65) (hi := 70) (wa := 2) (Or.inr ⟨rfl, rfl, rfl⟩)
    rw [cd_t a4]
    by_cases c : gI M 0 20 = 2
    · rw [cd_t c, cd_t (hi.mpr c).1]
      obtain ⟨S1, M1, q1, q2, q3, q4, q5, q6, q7, q8⟩ := cond2 ho hk hn (Or.inl hx0)
      obtain ⟨S', M', p1, p2, p3, p4, p5, p6, p7⟩ := plusN (e := e) (ca := ca) (sl := sl) ho hn (by rw [q3.2.2.2.2.1]; exact hk) q7
      have hb1 : BO o e n S S1 M M1 := ⟨CO_any q3, q4, ⟨q5 0 (by decide) (by decide) (by decide), q5 1 (by decide) (by decide) (by decide), q5 4 (by decide) (by decide) (by decide)⟩, by rw [q6 5 (by decide) (by decide) (by decide) (by decide)], by rw [q6 6 (by decide) (by decide) (by decide) (by decide)]⟩
      refine ⟨S', M', by rw [q1, bn_s, p1], by unfold fn_X9_named_128; rw [q2, bn_s, p2], hb1.tr p3, p6, fun z => ?_⟩
      obtain ⟨t1, t2, t3, t4⟩ := p7 z
      obtain ⟨v, lv, c1, c2, c3, c4⟩ := q8 t1
      have e7 : gI M' 7 n = nI v := by rw [p5 7 (by decide) (by decide) (by decide)]; exact c2
      have e11 : gI M1 11 n = 0 := by rw [q6 11 (by decide) (by decide) (by decide) (by decide)]; exact h11
      have e9 : gI S1 o 9 = 0 := by rw [q5 9 (by decide) (by decide) (by decide)]; exact h9
      refine ⟨by rw [p4 5 (by decide) (by decide), c1, e7], Or.inr (by rw [e7]; exact (n_in (by omega)).mpr lv), fun _ => ⟨by rw [p4 6 (by decide) (by decide), p5 8 (by decide) (by decide) (by decide)]; exact c3, by rw [p4 7 (by decide) (by decide), p5 9 (by decide) (by decide) (by decide)]; exact c4⟩, fun _ => ⟨t2, t3⟩, ?_, ?_, ?_, fun z1 => absurd z1 (by decide), fun z1 => absurd z1 (by decide)⟩
      · rcases t4 with ⟨u1, u2⟩ | ⟨u1, u2, _⟩
        · rw [u1, u2, e9, e11]
        · rw [u1, u2]
      · rcases t4 with ⟨u1, u2⟩ | ⟨u1, u2, _⟩
        · exact Or.inl (u2.trans e11)
        · exact Or.inr u2
      · intro z1
        rcases t4 with ⟨u1, u2⟩ | ⟨u1, u2, u3⟩
        · exact absurd ((u2.trans e11).symm.trans z1) (by decide)
        · exact u3
    · rw [cd_f c]
      by_cases c2 : gI S 2 5 = 257
      · rw [cd_t c2]
        -- letters that are no fact: the class refuses them at once, the reference as no '='
        obtain ⟨r, S1, r', M1, q1, q2, q3, q4, q5, q6, q7⟩ := let2 (lo := 65) (hi := 70) (wa := 2) (Or.inr ⟨rfl, rfl, rfl⟩) (Or.inl hx0)
        obtain ⟨M6, v1, v2, v3, v4, v5⟩ := wrongM (M := M) (k := 1) (x := gI M 0 19) (by decide)
        have htk : fn_X9_takes 2 M = some (0, M6) := by unfold fn_X9_takes; rw [cd_t a4, cd_f c, v1, bn_s]
        rw [htk] at q2
        injection q2 with q2
        injection q2 with e1 e2
        subst e2
        have hpf : PF S1 M6 b N := by
          rcases q5 with q5 | q5
          · obtain ⟨_, _, _, _, z, _⟩ := q5; exact absurd z v3
          · exact q5
        obtain ⟨S2, y1, y2, y3, y4⟩ := condF (M := M) ho hk q1 q3 hpf
        have hnk : ¬ (gI M 0 20 = 4 ∧ gI M 0 21 = nI 61) := fun z => by
          have := (sgn_iff a1 a2 (show isS 61 = true by decide)).mpr z
          rw [c2] at this; exact absurd this (by decide)
        have hw61 : fn_X9_wants 61 M = some M6 := by
          unfold fn_X9_wants fn_X9_wants_24 fn_X9_isSign fn_X9_isSign_27 fn_X9_isSign_28
          simp only [or_true, true_or, gd_T]
          rw [cd_t a4]
          by_cases z1 : gI M 0 20 = 4
          · rw [cd_t z1, cd_f (show ¬ gI M 0 21 = 61 from fun z2 => hnk ⟨z1, z2⟩), bn2_s, cd_t rfl, v1, bn_s]
          · rw [cd_f z1, bn2_s, cd_t rfl, v1, bn_s]
        obtain ⟨S', M', p1, p2, p3, p4, p5, p6, p7⟩ := plusN (e := e) (ca := ca) (sl := sl) ho hn (by rw [y2.2.2.2.2.1]; exact hk) (Or.inr y4)
        have hsame : fn_X9_named_133 (nI n) 5 M = fn_X9_named_133 (nI n) 5 M6 := by
          unfold fn_X9_named_133
          rw [hw61, show fn_X9_wants 61 M6 = some M6 from (PF_sgn (c := 61) (by decide) y4).choose_spec.2.2.2]
        rw [hsame]
        refine ⟨S', M', by rw [y1, bn_s, p1], p2, ?_, p6, fun z => absurd (p7 z).1 y4.2.2.2.1⟩
        exact (show BO o e n S S2 M M6 from ⟨CO_any y2, v2.o, ⟨y3 0 (by decide) (by decide) (by decide), y3 1 (by decide) (by decide) (by decide), y3 4 (by decide) (by decide) (by decide)⟩, by rw [v2.1 5 (by decide)], by rw [v2.1 6 (by decide)]⟩).tr p3
      · rw [cd_f c2]
        exact hplain (Or.inl hx0)
  · rw [cd_f hf.2.2.2.1]
    by_cases c2 : gI S 2 5 = 257
    · rw [cd_t c2]
      obtain ⟨r, S1, q1, q2, q3, _⟩ := PF_let (lo := 65) (hi := 70) (wa := 2) (Or.inr ⟨rfl, rfl, rfl⟩) hf
      obtain ⟨S2, y1, y2, y3, y4⟩ := condF (M := M) ho hk q1 q2 q3
      obtain ⟨S', M', p1, p2, p3, p4, p5, p6, p7⟩ := plusN (e := e) (ca := ca) (sl := sl) ho hn (by rw [y2.2.2.2.2.1]; exact hk) (Or.inr y4)
      refine ⟨S', M', by rw [y1, bn_s, p1], p2, ?_, p6, fun z => absurd (p7 z).1 hf.2.2.2.1⟩
      exact (show BO o e n S S2 M M from ⟨CO_any y2, MO.rf, ⟨y3 0 (by decide) (by decide) (by decide), y3 1 (by decide) (by decide) (by decide), y3 4 (by decide) (by decide) (by decide)⟩, rfl, rfl⟩).tr p3
    · rw [cd_f c2]
      exact hplain (Or.inr hf)
end PLUS
/-! a new line's object -/
theorem newL {S : HS} {x1 x2 : Int32} (hx2 : x2 = 0 ∨ x2 = 1) : ∃ S', fn_X2_init (gZ S) x1 x2 (aN S 3 0) = some S' ∧ gZ S' = gZ S + 2 ∧ gK S' (gZ S) = 3 ∧ gK S' (gZ S + 1) = 21 ∧ gN S' (gZ S + 1) = (if x1 = 2 ∧ x2 = 0 then 8 else 0) ∧ gR S' (gZ S) 2 = some (gZ S + 1) ∧ gI S' (gZ S) 0 = x1 ∧ gI S' (gZ S) 1 = x2 ∧ gI S' (gZ S) 5 = -1 ∧ (∀ j, j ≠ 0 → j ≠ 1 → j ≠ 5 → gI S' (gZ S) j = 0) ∧
    (∀ c, c < gZ S → gI S' c = gI S c ∧ gR S' c = gR S c ∧ gJ S' c = gJ S c ∧ gK S' c = gK S c ∧ gN S' c = gN S c) ∧ (hC S → hC S') ∧ (hFr S → hFr S') := by
  generalize ho : gZ S = o
  have ko : gK (aN S 3 0) o = 3 := by rw [gK_aN, if_pos ho.symm]
  have hz : gZ (aN S 3 0) = o + 1 := by rw [gZ_aN, ho]
  have hfin : ∀ n : Nat, n ≤ 8 → ∃ S', fn_X2_init_35 (nI n) o 0 0 (sI (sI (sI (aN S 3 0) o 5 (-1)) o 0 x1) o 1 x2) = some S' ∧ gZ S' = o + 2 ∧ gK S' o = 3 ∧ gK S' (o + 1) = 21 ∧ gN S' (o + 1) = n ∧ gR S' o 2 = some (o + 1) ∧ gI S' o 0 = x1 ∧ gI S' o 1 = x2 ∧ gI S' o 5 = -1 ∧ (∀ j, j ≠ 0 → j ≠ 1 → j ≠ 5 → gI S' o j = 0) ∧ (∀ c, c < o → gI S' c = gI S c ∧ gR S' c = gR S c ∧ gJ S' c = gJ S c ∧ gK S' c = gK S c ∧ gN S' c = gN S c) ∧ (hC S → hC S') ∧ (hFr S → hFr S') := by
    intro n ln
    have hz3 : gZ (sI (sI (sI (aN S 3 0) o 5 (-1)) o 0 x1) o 1 x2) = o + 1 := hz
    have k3 : gK (aN (sI (sI (sI (aN S 3 0) o 5 (-1)) o 0 x1) o 1 x2) 21 n) o = 3 := by
      rw [gK_aN, hz3, if_neg (by omega)]; exact ko
    have hI : ∀ c j, c < o + 1 → gI (aN (sI (sI (sI (aN S 3 0) o 5 (-1)) o 0 x1) o 1 x2) 21 n) c j = gI (sI (sI (sI (aN S 3 0) o 5 (-1)) o 0 x1) o 1 x2) c j := fun c j hc => by rw [gI_aN, hz3, if_neg (by omega)]
    refine ⟨sR (aN (sI (sI (sI (aN S 3 0) o 5 (-1)) o 0 x1) o 1 x2) 21 n) o 2 (some (o + 1)), ?_, ?_, k3, ?_, ?_, ?_, ?_, ?_, ?_, fun j h0 h1 h5 => ?_, fun c hc => ⟨?_, ?_, ?_, ?_, ?_⟩, fun h => ?_, fun h => ?_⟩
    · unfold fn_X2_init_35
      rw [gd_t ⟨n_ge0 (by omega), by rw [n_cl (by omega)]; omega, by omega, by rw [n_cl (by omega)]; omega⟩, n_cl (by omega), bn_s, gd_t k3, bn_s, hz3]
    · show gZ (sI (sI (sI (aN S 3 0) o 5 (-1)) o 0 x1) o 1 x2) + 1 = o + 2; rw [hz3]
    · show gK (aN _ 21 n) (o + 1) = 21; rw [gK_aN, hz3, if_pos rfl]
    · show gN (aN _ 21 n) (o + 1) = n; rw [gN_aN, hz3, if_pos rfl]
    · rw [gR_sR, if_pos ⟨rfl, rfl⟩]
    · rw [gI_sR, hI o 0 (by omega), sI_nk (by decide), sI_eq]
    · rw [gI_sR, hI o 1 (by omega), sI_eq]
    · rw [gI_sR, hI o 5 (by omega), sI_nk (by decide), sI_nk (by decide), sI_eq]
    · rw [gI_sR, hI o j (by omega), sI_nk h1, sI_nk h0, sI_nk h5, gI_aN, if_pos ho.symm]
    · funext j; rw [gI_sR, hI c j (by omega), sI_ne (by omega), sI_ne (by omega), sI_ne (by omega), gI_aN, if_neg (by omega)]
    · funext j
      rw [gR_sR, if_neg (by omega), gR_aN, hz3, if_neg (by omega)]
      show gR (aN S 3 0) c j = _
      rw [gR_aN, if_neg (by omega)]
    · funext j
      show gJ (aN (sI (sI (sI (aN S 3 0) o 5 (-1)) o 0 x1) o 1 x2) 21 n) c j = _
      rw [gJ_aN, hz3, if_neg (by omega)]
      show gJ (aN S 3 0) c j = _
      rw [gJ_aN, if_neg (by omega)]
    · show gK (aN (sI (sI (sI (aN S 3 0) o 5 (-1)) o 0 x1) o 1 x2) 21 n) c = _
      rw [gK_aN, hz3, if_neg (by omega)]
      show gK (aN S 3 0) c = _
      rw [gK_aN, if_neg (by omega)]
    · show gN (aN (sI (sI (sI (aN S 3 0) o 5 (-1)) o 0 x1) o 1 x2) 21 n) c = _
      rw [gN_aN, hz3, if_neg (by omega)]
      show gN (aN S 3 0) c = _
      rw [gN_aN, if_neg (by omega)]
    · exact hC_sR (hC_aN (hC_sI (hC_sI (hC_sI (hC_aN h 3 0)))) 21 n) k3 (by decide)
    · intro c hc
      have hc : o + 2 ≤ c := by
        have : gZ (sR (aN (sI (sI (sI (aN S 3 0) o 5 (-1)) o 0 x1) o 1 x2) 21 n) o 2 (some (o + 1))) = o + 2 := by show gZ (sI (sI (sI (aN S 3 0) o 5 (-1)) o 0 x1) o 1 x2) + 1 = o + 2; rw [hz3]
        omega
      show gK (aN (sI (sI (sI (aN S 3 0) o 5 (-1)) o 0 x1) o 1 x2) 21 n) c = 99
      rw [gK_aN, hz3, if_neg (by omega)]
      show gK (aN S 3 0) c = 99
      rw [gK_aN, if_neg (by omega)]; exact h c (by omega)
  have hu : fn_X2_init o x1 x2 (aN S 3 0) = cd (x1 = 2) (cd (x2 = 0) (fn_X2_init_35 8 o 0 0 (sI (sI (sI (aN S 3 0) o 5 (-1)) o 0 x1) o 1 x2)) (fn_X2_init_35 0 o 0 0 (sI (sI (sI (aN S 3 0) o 5 (-1)) o 0 x1) o 1 x2))) (fn_X2_init_35 0 o 0 0 (sI (sI (sI (aN S 3 0) o 5 (-1)) o 0 x1) o 1 x2)) := by
    unfold fn_X2_init fn_X2_init_34
    simp only [gK_sI, ko, gd_T, bn_s, hx2]
  rw [hu]
  by_cases c1 : x1 = 2
  · rw [cd_t c1]
    by_cases c2 : x2 = 0
    · rw [cd_t c2, if_pos ⟨c1, c2⟩]; exact hfin 8 (by omega)
    · rw [cd_f c2, if_neg (fun z => c2 z.2)]; exact hfin 0 (by omega)
  · rw [cd_f c1, if_neg (fun z => c1 z.1)]; exact hfin 0 (by omega)
