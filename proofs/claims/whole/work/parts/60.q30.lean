/-! both sides read a text -/
def MTk (M : HS) (b : Nat → Nat) (N st : Nat) : Prop := ML M b N ∧ gI M 0 19 = nI st ∧ gI M 0 18 = nI (te b N st) ∧ VT b N st (gI M 0 20) (gI M 0 21)
def PX (S M : HS) (b : Nat → Nat) (N : Nat) : Prop := ∃ st, CT S b N st ∧ MTk M b N st ∧ gI S 2 6 = 0 ∧ gI M 0 22 = 0 ∧ gI S 2 7 = gI M 0 23
def PF (S M : HS) (b : Nat → Nat) (N : Nat) : Prop := (∃ st, CT S b N st) ∧ ML M b N ∧ gI S 2 6 = gI M 0 22 ∧ gI M 0 22 ≠ 0 ∧ gI S 2 7 = gI M 0 23
def PZ (S M : HS) (b : Nat → Nat) (N : Nat) : Prop := PX S M b N ∨ PF S M b N
section PRIM
variable {b : Nat → Nat} {N : Nat} {S M : HS}
theorem PZ_c {o j : Nat} {v : Int32} (h1 : o ≠ 1) (h2 : o ≠ 2) (h : PZ S M b N) : PZ (sI S o j v) M b N := by
  have hC : ∀ st, CT S b N st → CT (sI S o j v) b N st := by
    intro st hc
    unfold CT CL at *
    rw [sI_ne (Ne.symm h1), sI_ne (Ne.symm h2)]; exact hc
  rcases h with ⟨st, a1, a2, a3, a4, a5⟩ | ⟨⟨st, a1⟩, a2, a3, a4, a5⟩
  · exact Or.inl ⟨st, hC st a1, a2, by rw [sI_ne (Ne.symm h2)]; exact a3, a4, by rw [sI_ne (Ne.symm h2)]; exact a5⟩
  · exact Or.inr ⟨⟨st, hC st a1⟩, a2, by rw [sI_ne (Ne.symm h2)]; exact a3, a4, by rw [sI_ne (Ne.symm h2)]; exact a5⟩
theorem PZ_m {c j : Nat} {v : Int32} (h0 : c ≠ 0) (h1 : c ≠ 1) (h : PZ S M b N) : PZ S (sI M c j v) b N := by
  have hL : ML M b N → ML (sI M c j v) b N := by
    intro hc
    unfold ML at *
    rw [sI_ne (Ne.symm h1), sI_ne (Ne.symm h0)]; exact hc
  rcases h with ⟨st, a1, a2, a3, a4, a5⟩ | ⟨a1, a2, a3, a4, a5⟩
  · refine Or.inl ⟨st, a1, ⟨hL a2.1, ?_⟩, a3, by rw [sI_ne (Ne.symm h0)]; exact a4, by rw [sI_ne (Ne.symm h0)]; exact a5⟩
    rw [sI_ne (Ne.symm h0)]; exact a2.2
  · exact Or.inr ⟨a1, hL a2, by rw [sI_ne (Ne.symm h0)]; exact a3, by rw [sI_ne (Ne.symm h0)]; exact a4, by rw [sI_ne (Ne.symm h0)]; exact a5⟩
theorem PZ_f (h : PZ S M b N) : gI S 2 6 = gI M 0 22 ∧ gI S 2 7 = gI M 0 23 := by
  rcases h with ⟨st, a1, a2, a3, a4, a5⟩ | ⟨a1, a2, a3, a4, a5⟩
  · exact ⟨a3.trans a4.symm, a5⟩
  · exact ⟨a3, a5⟩
theorem PZ_x (h : PZ S M b N) (h0 : gI M 0 22 = 0) : PX S M b N := by
  rcases h with h | h
  · exact h
  · exact absurd h0 h.2.2.2.1
theorem CT_s {st j : Nat} {v : Int32} (hj : j = 6 ∨ j = 7) (h : CT S b N st) : CT (sI S 2 j v) b N st := by
  unfold CT CL at *
  rw [show gI (sI S 2 j v) 1 = gI S 1 from sI_ne (by decide), sI_nk (show 2 ≠ j by omega), sI_nk (show 3 ≠ j by omega), sI_nk (show 4 ≠ j by omega), sI_nk (show 5 ≠ j by omega)]; exact h
/-- the class goes on, whatever was wrong -/
theorem advF {st : Nat} (h : CT S b N st) : ∃ S', fn_X4_advance S = some S' ∧ C2 S S' ∧ gI S' 2 6 = gI S 2 6 ∧ gI S' 2 7 = gI S 2 7 ∧ CT S' b N (rn isB b N (te b N st)) := by
  have ht := te_b (b := b) h.2.1
  exact adv_C h.1 ht.2 h.2.2.2.2.1
theorem refF {k x : Int32} (hk : k ≠ 0) : ∃ S', fn_X4_refuse k x S = some S' ∧ C2 S S' ∧ (∀ st, CT S b N st → CT S' b N st) ∧ gI S' 2 6 ≠ 0 ∧ (gI S 2 6 = 0 → gI S' 2 6 = k ∧ gI S' 2 7 = x) ∧ (gI S 2 6 ≠ 0 → S' = S) := by
  unfold fn_X4_refuse fn_X4_refuse_17
  by_cases c : gI S 2 6 = 0
  · rw [cd_t c, bn_s, bn_s]
    refine ⟨_, rfl, (C2_s (by decide)).tr (C2_s (by decide)), fun st h => CT_s (Or.inr rfl) (CT_s (Or.inl rfl) h), ?_, fun _ => ⟨?_, sI_eq⟩, fun z => absurd c z⟩
    · rw [sI_nk (by decide), sI_eq]; exact hk
    · rw [sI_nk (by decide), sI_eq]
  · rw [cd_f c]
    exact ⟨S, rfl, C2.rf, fun _ h => h, c, fun z => absurd z c, fun _ => rfl⟩
theorem wrongM {k x : Int32} (hk : k ≠ 0) : ∃ M', fn_X9_wrong k x M = some M' ∧ M2 M M' ∧ gI M' 0 22 ≠ 0 ∧ (gI M 0 22 = 0 → gI M' 0 22 = k ∧ gI M' 0 23 = x) ∧ (gI M 0 22 ≠ 0 → M' = M) := by
  unfold fn_X9_wrong
  by_cases c : gI M 0 22 = 0
  · rw [cd_t c, bn_s, bn_s]
    refine ⟨_, rfl, (M2_s (by decide)).tr (M2_s (by decide)), ?_, fun _ => ⟨?_, sI_eq⟩, fun z => absurd c z⟩
    · rw [sI_nk (by decide), sI_eq]; exact hk
    · rw [sI_nk (by decide), sI_eq]
  · rw [cd_f c]
    exact ⟨M, rfl, M2.rf, c, fun z => absurd z c, fun _ => rfl⟩
theorem adv2 (h : PX S M b N) : ∃ S' M', fn_X4_advance S = some S' ∧ fn_X9_next M = some M' ∧ C2 S S' ∧ M2 M M' ∧ PX S' M' b N := by
  obtain ⟨st, a1, a2, a3, a4, a5⟩ := h
  obtain ⟨S', q1, q2, q3, q4, q5⟩ := advF a1
  obtain ⟨M', r1, r2, r3, r4, r5, r6, r7⟩ := next_M a2.1 (te_b (b := b) a1.2.1).2 a2.2.2.1
  exact ⟨S', M', q1, r1, q2, r2, _, q5, ⟨a2.1.keep r2, r5, r6, r7⟩, q3.trans a3, r3.trans a4, q4.trans (a5.trans r4.symm)⟩
/-- both refuse -/
theorem ref2 {k x y : Int32} (hk : k ≠ 0) (hxy : x = y) (h : PZ S M b N) : ∃ S' M', fn_X4_refuse k x S = some S' ∧ fn_X9_wrong k y M = some M' ∧ C2 S S' ∧ M2 M M' ∧ PF S' M' b N := by
  obtain ⟨S', q1, q2, q3, q4, q5, q6⟩ := refF (S := S) (b := b) (N := N) (x := x) hk
  obtain ⟨M', r1, r2, r3, r4, r5⟩ := wrongM (M := M) (x := y) hk
  refine ⟨S', M', q1, r1, q2, r2, ?_⟩
  rcases h with ⟨st, a1, a2, a3, a4, a5⟩ | ⟨⟨st, a1⟩, a2, a3, a4, a5⟩
  · exact ⟨⟨st, q3 st a1⟩, a2.1.keep r2, (q5 a3).1.trans (r4 a4).1.symm, r3, (q5 a3).2.trans (hxy.trans (r4 a4).2.symm)⟩
  · have e1 := q6 (by rw [a3]; exact a4)
    have e2 := r5 a4
    rw [e1, e2]
    exact ⟨⟨st, a1⟩, a2, a3, a4, a5⟩
/-- the class alone, behind a fault -/
theorem PF_C {S' : HS} (h : PF S M b N) (hc : ∃ st, CT S' b N st) (h6 : gI S' 2 6 = gI S 2 6) (h7 : gI S' 2 7 = gI S 2 7) : PF S' M b N := ⟨hc, h.2.1, h6.trans h.2.2.1, h.2.2.2.1, h7.trans h.2.2.2.2⟩
theorem PF_r {k x : Int32} (hk : k ≠ 0) (h : PF S M b N) : fn_X4_refuse k x S = some S := by
  obtain ⟨S', q1, q2, q3, q4, q5, q6⟩ := refF (S := S) (b := b) (N := N) (x := x) hk
  rw [q1, q6 (by rw [h.2.2.1]; exact h.2.2.2.1)]
theorem PF_w {k x : Int32} (hk : k ≠ 0) (h : PF S M b N) : fn_X9_wrong k x M = some M := by
  obtain ⟨M', r1, r2, r3, r4, r5⟩ := wrongM (M := M) (x := x) hk
  rw [r1, r5 h.2.2.2.1]
/-! kinds and sorts -/
theorem kd_L {st : Nat} (hL : CL S b N) (hst : st ≤ N) (hnb : ¬ (st < N ∧ isB (b st) = true)) : (kd b N st = 257 ↔ (st < N ∧ isL (b st) = true)) ∧ (kd b N st = 258 ↔ (st < N ∧ isL (b st) = false ∧ isD (b st) = true)) ∧ (kd b N st = 259 ↔ ¬ st < N) ∧ ∀ c : Nat, c < 256 → isL c = false → isD c = false → isB c = false → (kd b N st = nI c ↔ (st < N ∧ b st = c)) := by
  have hN := hL.2.1
  unfold kd
  by_cases c : st < N
  · simp only [if_pos c, c, true_and]
    have hlt := (hL.2.2 st (by omega)).2
    obtain ⟨k1, k2, k3, k4⟩ := kB_256 hlt
    have hb : isB (b st) = false := by
      cases h : isB (b st)
      · rfl
      · exact absurd ⟨c, h⟩ hnb
    refine ⟨⟨fun z => (k2.mp z).2, fun z => k2.mpr ⟨hb, z⟩⟩, ⟨fun z => (k3.mp z).2, fun z => k3.mpr ⟨hb, z⟩⟩, ⟨fun z => absurd z k4, fun z => absurd trivial z⟩, fun x hx l1 l2 l3 => ⟨fun z => ?_, fun z => ?_⟩⟩
    · unfold kB at z
      rw [hb] at z
      by_cases c1 : isL (b st) = true
      · rw [c1] at z
        have z : (257 : Int32) = nI x := z
        rw [show (257 : Int32) = nI 257 from rfl, n_eq (by omega) (by omega)] at z; omega
      · have c1' : isL (b st) = false := by simpa using c1
        rw [c1'] at z
        by_cases c2 : isD (b st) = true
        · rw [c2] at z
          have z : (258 : Int32) = nI x := z
          rw [show (258 : Int32) = nI 258 from rfl, n_eq (by omega) (by omega)] at z; omega
        · have c2' : isD (b st) = false := by simpa using c2
          rw [c2'] at z
          have z : nI (b st) = nI x := z
          rw [n_eq (by omega) (by omega)] at z; exact z
    · rw [z]
      unfold kB
      rw [l1, l2, l3]; rfl
  · have e : (if st < N then kB (b st) else (259 : Int32)) = 259 := if_neg c
    rw [e]
    refine ⟨⟨fun z => absurd z (by decide), fun z => absurd z.1 c⟩, ⟨fun z => absurd z (by decide), fun z => absurd z.1 c⟩, ⟨fun _ => c, fun _ => rfl⟩, fun x hx _ _ _ => ⟨fun z => ?_, fun z => absurd z.1 c⟩⟩
    rw [show (259 : Int32) = nI 259 from rfl, n_eq (by omega) (by omega)] at z; omega
theorem sgn_iff {st c : Nat} (hC : CT S b N st) (hM : MTk M b N st) (hc : isS c = true) : gI S 2 5 = nI c ↔ (gI M 0 20 = 4 ∧ gI M 0 21 = nI c) := by
  have hc2 : c < 256 ∧ isL c = false ∧ isD c = false ∧ isB c = false := by
    unfold isS at hc
    simp only [Bool.or_eq_true, beq_iff_eq] at hc
    rcases hc with (((((h | h) | h) | h) | h) | h) | h <;> subst h <;> decide
  have hk := (kd_L hC.1 hC.2.1 hC.2.2.1).2.2.2 c hc2.1 hc2.2.1 hc2.2.2.1 hc2.2.2.2
  rw [hC.2.2.2.2.2, hk]
  rcases hM.2.2.2 with ⟨v1, v2⟩ | ⟨v1, v2, v3, v4⟩ | ⟨v1, v2, v3, v4⟩ | ⟨v1, v2, v3, v4⟩ | ⟨v1, v2, v3, v4, v5, v6⟩
  · rw [v2]; exact ⟨fun z => absurd z.1 v1, fun z => absurd z.1 (by decide)⟩
  · constructor
    · rintro ⟨_, z⟩; rw [z, hc2.2.1] at v2; cases v2
    · rintro ⟨z, _⟩
      rcases v4 with ⟨_, q, _⟩ | ⟨_, q, _⟩ | ⟨_, _, q⟩ <;> rw [q] at z <;> exact absurd z (by decide)
  · constructor
    · rintro ⟨_, z⟩; rw [z, hc2.2.1] at v2; cases v2
    · rintro ⟨z, _⟩
      rcases v4 with ⟨_, _, _, q, _⟩ | ⟨_, q⟩ <;> rw [q] at z <;> exact absurd z (by decide)
  · constructor
    · rintro ⟨_, z⟩; rw [z, hc2.2.2.1] at v2; cases v2
    · rintro ⟨z, _⟩; rw [v3] at z; exact absurd z (by decide)
  · have hN := hC.1.2.1
    have lb := (hC.1.2.2 st (by omega)).2
    rw [v5]
    constructor
    · rintro ⟨_, z⟩
      rcases v6 with ⟨_, q⟩ | ⟨q, _⟩
      · exact ⟨q, by rw [z]⟩
      · rw [z, hc] at q; cases q
    · rintro ⟨_, z⟩
      rw [n_eq (by omega) (by omega)] at z
      exact ⟨v1, z⟩
theorem num_iff {st : Nat} (hC : CT S b N st) (hM : MTk M b N st) : gI S 2 5 = 258 ↔ gI M 0 20 = 3 := by
  have hk := (kd_L hC.1 hC.2.1 hC.2.2.1).2.1
  rw [hC.2.2.2.2.2, hk]
  rcases hM.2.2.2 with ⟨v1, v2⟩ | ⟨v1, v2, v3, v4⟩ | ⟨v1, v2, v3, v4⟩ | ⟨v1, v2, v3, v4⟩ | ⟨v1, v2, v3, v4, v5, v6⟩
  · rw [v2]; exact ⟨fun z => absurd z.1 v1, fun z => absurd z (by decide)⟩
  · rw [v2]
    refine ⟨fun z => (by cases z.2.1), fun z => ?_⟩
    rcases v4 with ⟨_, q, _⟩ | ⟨_, q, _⟩ | ⟨_, _, q⟩ <;> rw [q] at z <;> exact absurd z (by decide)
  · rw [v2]
    refine ⟨fun z => (by cases z.2.1), fun z => ?_⟩
    rcases v4 with ⟨_, _, _, q, _⟩ | ⟨_, q⟩ <;> rw [q] at z <;> exact absurd z (by decide)
  · exact ⟨fun _ => v3, fun _ => ⟨v1, (isD_B v2).2, v2⟩⟩
  · rw [v3]
    refine ⟨fun z => (by cases z.2.2), fun z => ?_⟩
    rcases v6 with ⟨_, q⟩ | ⟨_, q⟩ <;> rw [q] at z <;> exact absurd z (by decide)
/-! a sign -/
theorem sgn2 {c : Nat} (hc : isS c = true) (h : PZ S M b N) : ∃ S' M', fn_X4_takeSign (nI c) S = some S' ∧ fn_X9_wants (nI c) M = some M' ∧ C2 S S' ∧ M2 M M' ∧ PZ S' M' b N := by
  unfold fn_X4_takeSign fn_X9_wants fn_X9_wants_24 fn_X9_isSign fn_X9_isSign_27 fn_X9_isSign_28
  simp only [or_true, true_or, gd_T]
  rcases h with hx | hf
  · have hx0 := hx
    obtain ⟨st, a1, a2, a3, a4, a5⟩ := hx
    have hi := sgn_iff a1 a2 hc
    have e3 : gI S 2 3 = gI M 0 19 := a1.2.2.2.1.trans a2.2.1.symm
    by_cases q : gI S 2 5 = nI c
    · obtain ⟨z1, z2⟩ := hi.mp q
      obtain ⟨S', M', q1, q2, q3, q4, q5⟩ := adv2 hx0
      refine ⟨S', M', ?_, ?_, q3, q4, Or.inl q5⟩
      · rw [cd_t q, q1, bn_s]
      · rw [cd_t a4, cd_t z1, cd_t z2, bn2_s, cd_f z10, q2, bn_s]
    · obtain ⟨S', M', q1, q2, q3, q4, q5⟩ := ref2 (k := 1) (by decide) e3 (Or.inl hx0)
      refine ⟨S', M', ?_, ?_, q3, q4, Or.inr q5⟩
      · rw [cd_f q, q1, bn_s]
      · rw [cd_t a4]
        by_cases z1 : gI M 0 20 = 4
        · rw [cd_t z1, cd_f (fun z2 => q (hi.mpr ⟨z1, z2⟩)), bn2_s, cd_t rfl, q2, bn_s]
        · rw [cd_f z1, bn2_s, cd_t rfl, q2, bn_s]
  · have hw := PF_w (k := 1) (x := gI M 0 19) (by decide) hf
    have hM : (bn2 (cd (gI M 0 22 = 0) (cd (gI M 0 20 = 4) (cd (gI M 0 21 = nI c) (some ((1 : Int32), M)) (some (0, M))) (some (0, M))) (some (0, M))) fun r2 S1 => cd (r2 = 0) (bn (fn_X9_wrong 1 (gI S1 0 19) S1) fun S4 => some S4) (bn (fn_X9_next S1) fun S3 => some S3)) = some M := by
      rw [cd_f hf.2.2.2.1, bn2_s, cd_t rfl, hw, bn_s]
    by_cases q : gI S 2 5 = nI c
    · obtain ⟨st, a1⟩ := hf.1
      obtain ⟨S', q1, q2, q3, q4, q5⟩ := advF a1
      exact ⟨S', M, by rw [cd_t q, q1, bn_s], hM, q2, M2.rf, Or.inr (PF_C hf ⟨_, q5⟩ q3 q4)⟩
    · exact ⟨S, M, by rw [cd_f q, PF_r (by decide) hf, bn_s], hM, C2.rf, M2.rf, Or.inr hf⟩
/-! a number -/
theorem num2 (h : PZ S M b N) : ∃ r S' r' M', fn_X4_takeNumber S = some (r, S') ∧ fn_X9_takes 3 M = some (r', M') ∧ C2 S S' ∧ M2 M M' ∧ PZ S' M' b N ∧ (gI M' 0 22 = 0 → ∃ v, v < 10000 ∧ r = nI v ∧ r' = nI v) := by
  unfold fn_X4_takeNumber fn_X4_takeNumber_42 fn_X9_takes fn_X9_takes_56
  rcases h with hx | hf
  · have hx0 := hx
    obtain ⟨st, a1, a2, a3, a4, a5⟩ := hx
    have hi := num_iff a1 a2
    have e3 : gI S 2 3 = gI M 0 19 := a1.2.2.2.1.trans a2.2.1.symm
    rw [cd_t a4]
    by_cases q : gI S 2 5 = 258
    · have z1 := hi.mp q
      have hd := tok_D a1 q
      have hva : gI M 0 21 = nI (rnum b (te b N st - st) st 0) := by
        rcases a2.2.2.2 with ⟨v1, v2⟩ | ⟨v1, v2, v3, v4⟩ | ⟨v1, v2, v3, v4⟩ | ⟨v1, v2, v3, v4⟩ | ⟨v1, v2, v3, v4, v5, v6⟩
        · exact absurd hd.1 v1
        · exact absurd ((isD_B hd.2.1).2.symm.trans v2) (by decide)
        · exact absurd ((isD_B hd.2.1).2.symm.trans v2) (by decide)
        · exact v4
        · exact absurd (v3.symm.trans hd.2.1) (by decide)
      rw [cd_t q, num_C a1 q, bn2_s, cd_t z1, bn_s, cd_t rfl, hva]
      have ht := te_b (b := b) a1.2.1
      rcases num_eq (b := b) (te b N st - st) st 0 0 (fun i hi => hd.2.2 (st + i) (by omega) (by omega)) (Or.inl ⟨by omega, rfl⟩) with ⟨w1, w2⟩ | ⟨w1, w2, w3⟩
      · obtain ⟨S', M', q1, q2, q3, q4, q5⟩ := adv2 hx0
        refine ⟨_, S', _, M', ?_, ?_, q3, q4, Or.inl q5, fun _ => ⟨rnum b (te b N st - st) st 0, by omega, rfl, rfl⟩⟩
        · rw [w2, cd_t (by rw [n_lit, n_le (by omega) (by omega)]; exact w1), q1, bn_s]
        · rw [cd_t (by rw [n_lit, n_le (by omega) (by omega)]; exact w1), q2, bn_s]
      · obtain ⟨S1, M1, q1, q2, q3, q4, q5⟩ := ref2 (k := 2) (by decide) e3 (Or.inl hx0)
        obtain ⟨st1, c1⟩ := q5.1
        obtain ⟨S', r1, r2, r3, r4, r5⟩ := advF c1
        refine ⟨nI 10000, S', 0, M1, ?_, ?_, q3.tr r2, q4, Or.inr (PF_C q5 ⟨_, r5⟩ r3 r4), fun z => absurd z q5.2.2.2.1⟩
        · rw [w3, cd_f (by decide), q1, bn_s, r1, bn_s]
        · rw [cd_f (by rw [n_lit, n_le (by omega) (by omega)]; omega), q2, bn_s]
    · obtain ⟨S', M', q1, q2, q3, q4, q5⟩ := ref2 (k := 1) (by decide) e3 (Or.inl hx0)
      refine ⟨0, S', 0, M', ?_, ?_, q3, q4, Or.inr q5, fun z => absurd z q5.2.2.2.1⟩
      · rw [cd_f q, q1, bn_s]
      · rw [cd_f (fun z => q (hi.mpr z)), q2, bn_s]
  · rw [cd_f hf.2.2.2.1]
    by_cases q : gI S 2 5 = 258
    · obtain ⟨st, a1⟩ := hf.1
      rw [cd_t q, num_C a1 q, bn2_s]
      obtain ⟨S', q1, q2, q3, q4, q5⟩ := advF a1
      refine ⟨nI (cnum b (te b N st - st) st 0), S', 0, M, ?_, rfl, q2, M2.rf, Or.inr (PF_C hf ⟨_, q5⟩ q3 q4), fun z => absurd z hf.2.2.2.1⟩
      rw [PF_r (by decide) hf, bn_s, q1, bn_s]
      by_cases w : nI (cnum b (te b N st - st) st 0) ≤ 9999
      · exact cd_t w
      · exact cd_f w
    · exact ⟨0, S, 0, M, by rw [cd_f q, PF_r (by decide) hf, bn_s], rfl, C2.rf, M2.rf, Or.inr hf, fun z => absurd z hf.2.2.2.1⟩
/-! a letter: names and facts -/
theorem let_iff {st : Nat} (hC : CT S b N st) (hM : MTk M b N st) {lo hi : Nat} {wa : Int32} (hw : (lo = 97 ∧ hi = 122 ∧ wa = 1) ∨ (lo = 65 ∧ hi = 70 ∧ wa = 2)) : (gI S 2 5 = 257 ∧ te b N st = st + 1 ∧ lo ≤ b st ∧ b st ≤ hi) ↔ gI M 0 20 = wa := by
  have hk := (kd_L hC.1 hC.2.1 hC.2.2.1).1
  rw [hC.2.2.2.2.2, hk]
  have hwa : wa ≠ 5 ∧ wa ≠ 0 ∧ wa ≠ 6 ∧ wa ≠ 3 ∧ wa ≠ 4 := by rcases hw with ⟨_, _, rfl⟩ | ⟨_, _, rfl⟩ <;> decide
  rcases hM.2.2.2 with ⟨v1, v2⟩ | ⟨v1, v2, v3, v4⟩ | ⟨v1, v2, v3, v4⟩ | ⟨v1, v2, v3, v4⟩ | ⟨v1, v2, v3, v4, v5, v6⟩
  · rw [v2]; exact ⟨fun z => absurd z.1.1 v1, fun z => absurd z.symm hwa.1⟩
  · have hb : 65 ≤ b st ∧ b st ≤ 122 := by unfold isL at v2; simp at v2; omega
    rcases v4 with ⟨p1, p2, _⟩ | ⟨p1, p2, _⟩ | ⟨p1, p2, p3⟩
    · rw [p2]
      rcases hw with ⟨rfl, rfl, rfl⟩ | ⟨rfl, rfl, rfl⟩
      · exact ⟨fun _ => rfl, fun _ => ⟨⟨v1, v2⟩, v3, p1, hb.2⟩⟩
      · exact ⟨fun z => by omega, fun z => absurd z (by decide)⟩
    · rw [p2]
      rcases hw with ⟨rfl, rfl, rfl⟩ | ⟨rfl, rfl, rfl⟩
      · exact ⟨fun z => by omega, fun z => absurd z (by decide)⟩
      · exact ⟨fun _ => rfl, fun _ => ⟨⟨v1, v2⟩, v3, hb.1, p1⟩⟩
    · rw [p3]
      refine ⟨fun z => ?_, fun z => absurd z.symm hwa.2.2.1⟩
      rcases hw with ⟨rfl, rfl, rfl⟩ | ⟨rfl, rfl, rfl⟩ <;> omega
  · refine ⟨fun z => absurd z.2.1 v3, fun z => ?_⟩
    rcases v4 with ⟨_, _, _, q, _⟩ | ⟨_, q⟩
    · rw [q] at z; exact absurd z.symm hwa.2.1
    · rw [q] at z; exact absurd z.symm hwa.2.2.1
  · rw [v3]; exact ⟨fun z => (by rw [(isD_B v2).2] at z; cases z.1.2), fun z => absurd z.symm hwa.2.2.2.1⟩
  · refine ⟨fun z => (by rw [v2] at z; cases z.1.2), fun z => ?_⟩
    rcases v6 with ⟨_, q⟩ | ⟨_, q⟩
    · rw [q] at z; exact absurd z.symm hwa.2.2.2.2
    · rw [q] at z; exact absurd z.symm hwa.2.2.1
theorem let2 {lo hi : Nat} {wa : Int32} (hw : (lo = 97 ∧ hi = 122 ∧ wa = 1) ∨ (lo = 65 ∧ hi = 70 ∧ wa = 2)) (h : PZ S M b N) : ∃ r S' r' M', fn_X4_takeLetter (nI lo) (nI hi) S = some (r, S') ∧ fn_X9_takes wa M = some (r', M') ∧ C2 S S' ∧ M2 M M' ∧ PZ S' M' b N ∧ (gI M' 0 22 = 0 → ∃ v, v ≤ hi - lo ∧ r = nI v ∧ r' = nI v) ∧ (∃ v, v < 256 ∧ r = nI v) := by
  have hlh : lo ≤ hi ∧ hi < 256 ∧ hi - lo < 256 := by rcases hw with ⟨rfl, rfl, _⟩ | ⟨rfl, rfl, _⟩ <;> omega
  have hw3 : wa ≠ 3 := by rcases hw with ⟨_, _, rfl⟩ | ⟨_, _, rfl⟩ <;> decide
  have hC : ∃ st, CT S b N st := by
    rcases h with ⟨st, a1, _⟩ | ⟨a1, _⟩
    · exact ⟨st, a1⟩
    · exact a1
  obtain ⟨st, c0⟩ := hC
  have ht := te_b (b := b) c0.2.1
  have hN := c0.1.2.1
  -- the class's answer, in two ways
  have hcy : (gI S 2 5 = 257 ∧ te b N st = st + 1 ∧ lo ≤ b st ∧ b st ≤ hi) → fn_X4_takeLetter (nI lo) (nI hi) S = bn (fn_X4_advance S) (fun S3 => some (nI (b st - lo), S3)) := by
    rintro ⟨z1, z2, z3, z4⟩
    have hst : st < N := by rw [c0.2.2.2.2.2] at z1; exact ((kd_L c0.1 c0.2.1 c0.2.2.1).1.mp z1).1
    unfold fn_X4_takeLetter
    rw [c0.2.2.2.1, byte_y c0.1 hst, bn2_s, cd_t z1, c0.2.2.2.2.1, c0.2.2.2.1, n_sub ht.1, z2, cd_t (by rw [show st + 1 - st = 1 by omega]; rfl), cd_f (by rw [n_lt (by omega) (by omega)]; omega), cd_t (by rw [n_le (by omega) (by omega)]; exact z4), n_sub z3]
  have hcn : ¬ (gI S 2 5 = 257 ∧ te b N st = st + 1 ∧ lo ≤ b st ∧ b st ≤ hi) → fn_X4_takeLetter (nI lo) (nI hi) S = bn (fn_X4_refuse 1 (gI S 2 3) S) (fun S1 => some (0, S1)) := by
    intro hn
    have hbyte : ∃ x, x < 256 ∧ fn_X4_byteAt (gI S 2 3) S = some (nI x, S) ∧ (st < N → x = b st) := by
      rw [c0.2.2.2.1]
      by_cases c : st < N
      · exact ⟨b st, (c0.1.2.2 st (by omega)).2, byte_y c0.1 c, fun _ => rfl⟩
      · exact ⟨0, by decide, byte_n c0.1 c (by omega), fun z => absurd z c⟩
    obtain ⟨x, lx, ex, hxb⟩ := hbyte
    unfold fn_X4_takeLetter fn_X4_takeLetter_42
    rw [ex, bn2_s]
    by_cases z1 : gI S 2 5 = 257
    · have hst : st < N := by rw [c0.2.2.2.2.2] at z1; exact ((kd_L c0.1 c0.2.1 c0.2.2.1).1.mp z1).1
      have hxb := hxb hst
      rw [cd_t z1, c0.2.2.2.2.1, c0.2.2.2.1, n_sub ht.1]
      by_cases z2 : te b N st = st + 1
      · rw [z2, cd_t (by rw [show st + 1 - st = 1 by omega]; rfl)]
        by_cases z3 : x < lo
        · rw [cd_t (by rw [n_lt (by omega) (by omega)]; exact z3)]
        · rw [cd_f (by rw [n_lt (by omega) (by omega)]; exact z3), cd_f (by rw [n_le (by omega) (by omega)]; intro z4; exact hn ⟨z1, z2, by omega, by omega⟩)]
      · rw [cd_f (show ¬ nI (te b N st - st) = 1 by rw [n_lit, n_eq (by omega) (by omega)]; omega)]
    · rw [cd_f z1]
  unfold fn_X9_takes fn_X9_takes_56
  rcases h with hx | hf
  · have hx0 := hx
    obtain ⟨st', a1, a2, a3, a4, a5⟩ := hx
    have est : st' = st := by
      have := a1.2.2.2.1.symm.trans c0.2.2.2.1
      rw [n_eq (by have := a1.2.1; omega) (by have := c0.2.1; omega)] at this; exact this
    subst est
    have hi' := let_iff a1 a2 hw
    have e3 : gI S 2 3 = gI M 0 19 := a1.2.2.2.1.trans a2.2.1.symm
    rw [cd_t a4]
    by_cases q : gI S 2 5 = 257 ∧ te b N st' = st' + 1 ∧ lo ≤ b st' ∧ b st' ≤ hi
    · have z1 := hi'.mp q
      have hva : gI M 0 21 = nI (b st' - lo) := by
        rcases a2.2.2.2 with ⟨v1, v2⟩ | ⟨v1, v2, v3, v4⟩ | ⟨v1, v2, v3, v4⟩ | ⟨v1, v2, v3, v4⟩ | ⟨v1, v2, v3, v4, v5, v6⟩
        · rw [z1] at v2; rcases hw with ⟨_, _, rfl⟩ | ⟨_, _, rfl⟩ <;> exact absurd v2 (by decide)
        · rcases v4 with ⟨p1, p2, p3⟩ | ⟨p1, p2, p3⟩ | ⟨p1, p2, p3⟩
          · rw [z1] at p2
            rcases hw with ⟨rfl, rfl, rfl⟩ | ⟨rfl, rfl, rfl⟩
            · exact p3
            · exact absurd p2 (by decide)
          · rw [z1] at p2
            rcases hw with ⟨rfl, rfl, rfl⟩ | ⟨rfl, rfl, rfl⟩
            · exact absurd p2 (by decide)
            · exact p3
          · rw [z1] at p3; rcases hw with ⟨_, _, rfl⟩ | ⟨_, _, rfl⟩ <;> exact absurd p3 (by decide)
        · exact absurd q.2.1 v3
        · rw [z1] at v3; exact absurd v3 hw3
        · have h7 := ((kd_L a1.1 a1.2.1 a1.2.2.1).1.mp (a1.2.2.2.2.2.symm.trans q.1)).2
          rw [h7] at v2; cases v2
      obtain ⟨S', M', q1, q2, q3, q4, q5⟩ := adv2 hx0
      refine ⟨_, S', _, M', by rw [hcy q, q1, bn_s], ?_, q3, q4, Or.inl q5, fun _ => ⟨b st' - lo, by omega, rfl, rfl⟩, ⟨b st' - lo, by omega, rfl⟩⟩
      rw [cd_t z1, bn_s, hva, cd_f hw3, q2, bn_s]
    · obtain ⟨S', M', q1, q2, q3, q4, q5⟩ := ref2 (k := 1) (by decide) e3 (Or.inl hx0)
      refine ⟨0, S', 0, M', by rw [hcn q, q1, bn_s], ?_, q3, q4, Or.inr q5, fun z => absurd z q5.2.2.2.1, ⟨0, by decide, rfl⟩⟩
      rw [cd_f (fun z => q (hi'.mpr z)), q2, bn_s]
  · rw [cd_f hf.2.2.2.1]
    by_cases q : gI S 2 5 = 257 ∧ te b N st = st + 1 ∧ lo ≤ b st ∧ b st ≤ hi
    · obtain ⟨S', q1, q2, q3, q4, q5⟩ := advF c0
      exact ⟨_, S', 0, M, by rw [hcy q, q1, bn_s], rfl, q2, M2.rf, Or.inr (PF_C hf ⟨_, q5⟩ q3 q4), fun z => absurd z hf.2.2.2.1, ⟨b st - lo, by omega, rfl⟩⟩
    · exact ⟨0, S, 0, M, by rw [hcn q, PF_r (by decide) hf, bn_s], rfl, C2.rf, M2.rf, Or.inr hf, fun z => absurd z hf.2.2.2.1, ⟨0, by decide, rfl⟩⟩
end PRIM
