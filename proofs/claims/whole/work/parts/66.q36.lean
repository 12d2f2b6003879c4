/-! a line, from its first word to its semicolon -/
theorem PZ_z {b : Nat → Nat} {N : Nat} {S S' M : HS} (h1 : gI S' 1 = gI S 1) (h2 : gI S' 2 = gI S 2) (h : PZ S M b N) : PZ S' M b N := by
  have hC : ∀ st, CT S b N st → CT S' b N st := by
    intro st hc
    unfold CT CL at *
    rw [h1, h2]; exact hc
  rcases h with ⟨st, a1, a2, a3, a4, a5⟩ | ⟨⟨st, a1⟩, a2, a3, a4, a5⟩
  · exact Or.inl ⟨st, hC st a1, a2, by rw [h2]; exact a3, a4, by rw [h2]; exact a5⟩
  · exact Or.inr ⟨⟨st, hC st a1⟩, a2, by rw [h2]; exact a3, a4, by rw [h2]; exact a5⟩
/-- an ordinary line, put together -/
theorem mkL {S M : HS} {o e n k nm : Nat} (ho : 65 ≤ o) (hk : gK S o = 3) (lk : k < 6) (ln : nm < 26) (o0 : gI S o 0 = nI k) (o1 : gI S o 1 = 0) (o4 : gI S o 4 = nI nm) (m5 : gI M 5 n = nI (26 * k + nm)) (m6 : gI M 6 n = 0) (hN : LNf o e n k S M) (hsc : k = 2 → gR S o 2 = some e ∧ 65 ≤ e ∧ gK S e = 21 ∧ gN S e = 8) (hst : k = 3 → nm = 0) : LRel S M o n ∧ LOK M n := by
  have qk : qK M n = 26 * k + nm := by unfold qK; rw [m5, n_cl (by omega)]
  obtain ⟨n1, n2, n3, n4, n5, n6, n7, n8, n9⟩ := hN
  constructor
  · refine ⟨ho, hk, ?_, ?_, by rw [o1, m6], n1, n3, fun _ => ⟨fun z => ?_, n5, fun z => ?_⟩⟩
    · rw [o0, qk, show (26 * k + nm) / 26 = k by omega]
    · rw [o4, qk, show (26 * k + nm) % 26 = nm by omega]
    · rw [qk] at z; exact (n4 (by omega)).1
    · rw [qk] at z
      have k2 : k = 2 := by omega
      obtain ⟨k', l1, l2, s1, s2, s3⟩ := n9 k2
      obtain ⟨h1, h2, h3, h4⟩ := hsc k2
      refine ⟨by rw [s1, s2], e, h1, h2, h3, h4, fun j hj => ?_⟩
      rw [s2, n_cl (by omega)] at hj
      exact (s3 j hj).1
  · refine ⟨by rw [m5]; exact (n_in (by omega)).mpr (by omega), Or.inl m6, n2, fun _ => ⟨fun z => ?_, n6, n7, fun z => ?_, fun z => ?_⟩⟩
    · rw [qk] at z; exact (n4 (by omega)).2
    · rw [qk] at z; exact n8 (by omega)
    · rw [qk] at z
      obtain ⟨k', l1, l2, s1, s2, s3⟩ := n9 (by omega)
      rw [s2, n_cl (by omega)]
      exact ⟨l1, (n_in (by omega)).mpr (by omega), fun j hj => (s3 j hj).2⟩
theorem end_iff {b : Nat → Nat} {N st : Nat} {S M : HS} (hC : CT S b N st) (hM : MTk M b N st) : gI S 2 5 = 259 ↔ gI M 0 20 = 5 := by
  have hk := (kd_L hC.1 hC.2.1 hC.2.2.1).2.2.1
  rw [hC.2.2.2.2.2, hk]
  rcases hM.2.2.2 with ⟨v1, v2⟩ | ⟨v1, v2, v3, v4⟩ | ⟨v1, v2, v3, v4⟩ | ⟨v1, v2, v3, v4⟩ | ⟨v1, v2, v3, v4, v5, v6⟩
  · exact ⟨fun _ => v2, fun _ => v1⟩
  · refine ⟨fun z => absurd v1 z, fun z => ?_⟩
    rcases v4 with ⟨_, q, _⟩ | ⟨_, q, _⟩ | ⟨_, _, q⟩ <;> rw [q] at z <;> exact absurd z (by decide)
  · refine ⟨fun z => absurd v1 z, fun z => ?_⟩
    rcases v4 with ⟨_, _, _, q, _⟩ | ⟨_, q⟩ <;> rw [q] at z <;> exact absurd z (by decide)
  · refine ⟨fun z => absurd v1 z, fun z => ?_⟩
    rw [v3] at z; exact absurd z (by decide)
  · refine ⟨fun z => absurd v1 z, fun z => ?_⟩
    rcases v6 with ⟨_, q⟩ | ⟨_, q⟩ <;> rw [q] at z <;> exact absurd z (by decide)
/-- a line that ends another -/
theorem end_line {b : Nat → Nat} {N n : Nat} {S1 M2 : HS} (hn : n < 481) (hZ : 65 ≤ gZ S1) (m6 : gI M2 6 n = 1) (m7 : gI M2 7 n = -1) (hx : PX S1 M2 b N) : ∃ o S3 M3, fn_X4_readEnd S1 = some (some o, S3) ∧ (∀ x1 x2, ∃ R, (cd (gI M2 0 20 = 0) (cd (gI M2 0 21 ≤ 2) (fn_X9_line_123 x1 x2 (nI n) M2) (cd (gI M2 0 21 = 5) (fn_X9_line_123 x1 x2 (nI n) M2) (fn_X9_line_130 x1 x2 (nI n) M2))) (fn_X9_line_130 x1 x2 (nI n) M2)) = R ∧ R = fn_X9_line_264 x1 x2 (nI n) M3) ∧ FZ S1 S3 ∧ MO n M2 M3 ∧ gZ S1 ≤ o ∧ gK S3 o = 3 ∧ (∃ so nm, so < 6 ∧ nm < 256 ∧ gI S3 o 0 = nI so ∧ gI S3 o 4 = nI nm ∧ PZ S3 M3 b N ∧ (gI M3 0 22 = 0 → nm < 26 ∧ gI M3 5 n = nI (26 * so + nm) ∧ LRel S3 M3 o n ∧ LOK M3 n)) := by
  have f1 : vp_in (nI n) 481 := (n_in (by omega)).mpr hn
  have f2 : (nI n).toNatClampNeg = n := n_cl (by omega)
  have hx0 := hx
  obtain ⟨st, a1, a2, a3, a4, a5⟩ := hx
  have e3 : gI S1 2 3 = gI M2 0 19 := a1.2.2.2.1.trans a2.2.1.symm
  have hwi := fun w hw => word_iff a1 a2 (w := w) hw
  -- the class's end, from the token behind on
  have h35 : ∀ (so : Nat) (T M3 : HS), so < 6 → C2 S1 T → MO n M2 M3 → PZ T M3 b N → gI M3 6 n = 1 → gI M3 7 n = -1 → ∃ r S4 o S3, FZ S1 S4 ∧ fn_X4_takeLetter 97 122 S4 = some (r, S3) ∧ o = gZ T ∧ (gd (0 + 1 ≤ 2 ∧ 0 + 10 ≤ 18) (bn (some (aN T 3 0)) (fun S3 => gd (0 + 1 + 1 ≤ 2 ∧ 0 + 10 + 8 ≤ 18) (bn (fn_X2_init (gZ T) (nI so) 1 S3) (fun S4 => bn2 (fn_X4_takeLetter 97 122 S4) (fun r7 S6 => gd (gK S6 (gZ T) = 3) (bn (some (sI S6 (gZ T) 4 r7)) (fun S9 => some (some (gZ T), S9))))))))) = some (some o, sI S3 o 4 r) ∧ FZ S1 (sI S3 o 4 r) ∧ C2 S4 S3 ∧ PZ S4 M3 b N ∧ gK S4 o = 3 ∧ gI S4 o 0 = nI so ∧ gI S4 o 1 = 1 ∧ gI S4 o 5 = -1 ∧ gZ S1 ≤ o := by
    intro so T M3 lso hc hm hz _ _
    have ez : gZ T = gZ S1 := hc.2.2.2.2.2.2
    obtain ⟨S4, q1, q2, q3, q4, q5, q6, q7, q8, q9, q10, q11, q12, q13⟩ := newL (S := T) (x1 := nI so) (x2 := 1) (Or.inr rfl)
    have hz4 : PZ S4 M3 b N := PZ_z (by rw [(q11 1 (by omega)).1]) (by rw [(q11 2 (by omega)).1]) hz
    have hfz4 : FZ S1 S4 := hc.z.tr ⟨fun c h1 _ => (q11 c h1).1, fun c h1 => (q11 c h1).2, by omega, q12, q13⟩
    have hlet : ∃ r S3, fn_X4_takeLetter 97 122 S4 = some (r, S3) ∧ C2 S4 S3 := by
      obtain ⟨r, S3, _, _, w1, _, w3, _⟩ := let2 (lo := 97) (hi := 122) (wa := 1) (Or.inl ⟨rfl, rfl, rfl⟩) hz4
      exact ⟨r, S3, w1, w3⟩
    obtain ⟨r, S3, w1, w3⟩ := hlet
    refine ⟨r, S4, gZ T, S3, hfz4, w1, rfl, ?_, ?_, w3, hz4, q3, q7, q8, q9, by omega⟩
    · rw [gd_t (by decide), bn_s, gd_t (by decide), q1, bn_s, w1, bn2_s, gd_t (by rw [w3.2.2.2.2.1]; exact q3), bn_s]
    · have h1 := hfz4.tr w3.z
      obtain ⟨b1, b2, b3, b4, b5⟩ := h1
      exact ⟨fun c z1 z2 => (sI_ne (by omega)).trans (b1 c z1 z2), b2, b3, fun h => hC_sI (b4 h), b5⟩
  -- good words
  have hgood : ∀ v : Nat, (v = 0 ∨ v = 1 ∨ v = 2 ∨ v = 5) → kd b N st = 257 → wm b v st (te b N st) → fn_X4_wordOfToken S1 = some (nI v, S1) → ∃ o S3 M3, fn_X4_readEnd S1 = some (some o, S3) ∧ (∀ x1 x2, ∃ R, (cd (gI M2 0 20 = 0) (cd (gI M2 0 21 ≤ 2) (fn_X9_line_123 x1 x2 (nI n) M2) (cd (gI M2 0 21 = 5) (fn_X9_line_123 x1 x2 (nI n) M2) (fn_X9_line_130 x1 x2 (nI n) M2))) (fn_X9_line_130 x1 x2 (nI n) M2)) = R ∧ R = fn_X9_line_264 x1 x2 (nI n) M3) ∧ FZ S1 S3 ∧ MO n M2 M3 ∧ gZ S1 ≤ o ∧ gK S3 o = 3 ∧ (∃ so nm, so < 6 ∧ nm < 256 ∧ gI S3 o 0 = nI so ∧ gI S3 o 4 = nI nm ∧ PZ S3 M3 b N ∧ (gI M3 0 22 = 0 → nm < 26 ∧ gI M3 5 n = nI (26 * so + nm) ∧ LRel S3 M3 o n ∧ LOK M3 n)) := by
    intro v hv hk hm hw
    obtain ⟨z1, z2⟩ := (hwi v (by omega)).mp ⟨hk, hm⟩
    obtain ⟨T, M3, y1, y2, y3, y4, y5⟩ := adv2 hx0
    obtain ⟨r, S4, o, S3, p1, p2, p3, p4, p5, p6, p7, p8, p9, p10, p11, p12⟩ := h35 v T M3 (by omega) y3 y4.o (Or.inl y5) (by rw [y4.1 6 (by decide)]; exact m6) (by rw [y4.1 7 (by decide)]; exact m7)
    obtain ⟨r0, S3', r', M4, w1, w2, w3, w4, w5, w6, w7⟩ := let2 (lo := 97) (hi := 122) (wa := 1) (Or.inl ⟨rfl, rfl, rfl⟩) p7
    have : some (r, S3) = some (r0, S3') := p2.symm.trans w1
    injection this with this
    injection this with er es
    subst er; subst es
    obtain ⟨nm0, ln0, en0⟩ := w7
    have hcd : ∀ (A : Type) (x y : A), (cd (gI M2 0 21 ≤ 2) x (cd (gI M2 0 21 = 5) x y)) = x := fun A x y => by
      rw [z2]
      rcases hv with rfl | rfl | rfl | rfl
      · exact cd_t (by decide)
      · exact cd_t (by decide)
      · exact cd_t (by decide)
      · exact (cd_f (by decide)).trans (cd_t rfl)
    have hre : fn_X4_readEnd S1 = fn_X4_readEnd_35 (nI v) 0 0 S1 := by
      unfold fn_X4_readEnd
      rw [hw, bn2_s]
      rcases hv with rfl | rfl | rfl | rfl
      · exact cd_t rfl
      · exact (cd_f (by decide)).trans (cd_t rfl)
      · exact (cd_f (by decide)).trans ((cd_f (by decide)).trans (cd_t rfl))
      · exact (cd_f (by decide)).trans ((cd_f (by decide)).trans ((cd_f (by decide)).trans (cd_t rfl)))
    have ho65 : 65 ≤ o := by omega
    refine ⟨o, sI S3 o 4 r, sI M4 5 n (26 * nI v + r'), ?_, fun x1 x2 => ⟨_, rfl, ?_⟩, p5, (y4.o.tr w4.o).tr (MO_s (by omega) (by decide)), p12, ?_, v, nm0, by omega, ln0, ?_, by rw [sI_eq, en0], PZ_m (by decide) (by decide) (PZ_c (by omega) (by omega) w5), fun z => ?_⟩
    · rw [hre]; unfold fn_X4_readEnd_35; rw [y1, bn_s]; exact p4
    · rw [cd_t z1, hcd]
      unfold fn_X9_line_123 fn_X9_line_131
      rw [z2, cd_f (n_neg1 (by omega)), y2, bn_s, w2, bn2_s, gd_t f1, f2, bn_s]
    · show gK S3 o = 3; rw [w3.2.2.2.2.1]; exact p8
    · rw [sI_nk (by decide), w3.1 o (by omega)]; exact p9
    · rw [sI_ne (by decide)] at z
      obtain ⟨nm, ln, e1, e2⟩ := w6 z
      have enm : nm0 = nm := (n_eq (by omega) (by omega)).mp (en0.symm.trans e1)
      subst enm
      have e5 : gI (sI M4 5 n (26 * nI v + r')) 5 n = nI (26 * v + nm0) := by rw [sI_eq, e2, n_lit, n_mul, n_add]
      have qk : qK (sI M4 5 n (26 * nI v + r')) n = 26 * v + nm0 := by unfold qK; rw [e5, n_cl (by omega)]
      have e6 : gI (sI M4 5 n (26 * nI v + r')) 6 n = 1 := by rw [sI_ne (by decide), w4.1 6 (by decide), y4.1 6 (by decide)]; exact m6
      have e7 : gI (sI M4 5 n (26 * nI v + r')) 7 n = -1 := by rw [sI_ne (by decide), w4.1 7 (by decide), y4.1 7 (by decide)]; exact m7
      refine ⟨by omega, e5, ⟨ho65, by show gK S3 o = 3; rw [w3.2.2.2.2.1]; exact p8, ?_, ?_, ?_, ?_, fun q => absurd e7 q, fun q => absurd (e6.symm.trans q) (by decide)⟩, ⟨by rw [e5]; exact (n_in (by omega)).mpr (by omega), Or.inr e6, Or.inl e7, fun q => absurd (e6.symm.trans q) (by decide)⟩⟩
      · rw [sI_nk (by decide), w3.1 o (by omega), p9, qk, show (26 * v + nm0) / 26 = v by omega]
      · rw [sI_eq, en0, qk, show (26 * v + nm0) % 26 = nm0 by omega]
      · rw [sI_nk (by decide), w3.1 o (by omega), p10, e6]
      · rw [sI_nk (by decide), w3.1 o (by omega), p11, e7]
  -- bad words
  have hbadw : (∀ r, fn_X4_wordOfToken S1 = some (r, S1) → r ≠ 0 ∧ r ≠ 1 ∧ r ≠ 2 ∧ r ≠ 5) → (∀ (A : Type) (x y : A), (cd (gI M2 0 20 = 0) (cd (gI M2 0 21 ≤ 2) x (cd (gI M2 0 21 = 5) x y)) y) = y) → (∃ r, fn_X4_wordOfToken S1 = some (r, S1)) → ∃ o S3 M3, fn_X4_readEnd S1 = some (some o, S3) ∧ (∀ x1 x2, ∃ R, (cd (gI M2 0 20 = 0) (cd (gI M2 0 21 ≤ 2) (fn_X9_line_123 x1 x2 (nI n) M2) (cd (gI M2 0 21 = 5) (fn_X9_line_123 x1 x2 (nI n) M2) (fn_X9_line_130 x1 x2 (nI n) M2))) (fn_X9_line_130 x1 x2 (nI n) M2)) = R ∧ R = fn_X9_line_264 x1 x2 (nI n) M3) ∧ FZ S1 S3 ∧ MO n M2 M3 ∧ gZ S1 ≤ o ∧ gK S3 o = 3 ∧ (∃ so nm, so < 6 ∧ nm < 256 ∧ gI S3 o 0 = nI so ∧ gI S3 o 4 = nI nm ∧ PZ S3 M3 b N ∧ (gI M3 0 22 = 0 → nm < 26 ∧ gI M3 5 n = nI (26 * so + nm) ∧ LRel S3 M3 o n ∧ LOK M3 n)) := by
    intro h1 h2 ⟨r0, h3⟩
    obtain ⟨n0, n1, n2, n5⟩ := h1 r0 h3
    obtain ⟨S5, M5, y1, y2, y3, y4, y5⟩ := ref2 (k := 1) (by decide) e3 (Or.inl hx0)
    obtain ⟨st5, c5⟩ := y5.1
    obtain ⟨T, u1, u2, u3, u4, u5⟩ := advF c5
    have hpf : PF T M5 b N := PF_C y5 ⟨_, u5⟩ u3 u4
    obtain ⟨r, S4, o, S3, p1, p2, p3, p4, p5, p6, p7, p8, p9, p10, p11, p12⟩ := h35 0 T M5 (by decide) (y3.tr u2) y4.o (Or.inr hpf) (by rw [y4.1 6 (by decide)]; exact m6) (by rw [y4.1 7 (by decide)]; exact m7)
    have hpf4 : PF S4 M5 b N := by
      rcases p7 with q | q
      · obtain ⟨_, _, _, _, z, _⟩ := q; exact absurd z hpf.2.2.2.1
      · exact q
    obtain ⟨r1, S3', w1, w2, w3, nm, ln, en⟩ := PF_let (lo := 97) (hi := 122) (wa := 1) (Or.inl ⟨rfl, rfl, rfl⟩) hpf4
    have : some (r, S3) = some (r1, S3') := p2.symm.trans w1
    injection this with this
    injection this with er es
    subst er; subst es
    refine ⟨o, sI S3 o 4 r, M5, ?_, fun x1 x2 => ⟨_, rfl, ?_⟩, p5, y4.o, p12, ?_, 0, nm, by decide, ln, ?_, by rw [sI_eq, en], Or.inr (PF_sI (by omega) (by omega) w3), fun z => absurd z hpf.2.2.2.1⟩
    · unfold fn_X4_readEnd
      rw [h3, bn2_s, cd_f n0, cd_f n1, cd_f n2, cd_f n5, y1, bn_s]
      unfold fn_X4_readEnd_35
      rw [u1, bn_s]; exact p4
    · rw [h2]
      unfold fn_X9_line_130 fn_X9_line_131 fn_X9_line_264
      rw [cd_t rfl, y2, bn_s, cd_f hpf.2.2.2.1]
    · show gK S3 o = 3; rw [p6.2.2.2.2.1]; exact p8
    · rw [sI_nk (by decide), p6.1 o (by omega)]; exact p9
  rcases wordOf_C a1 with ⟨v, lv, q1, q2, q3⟩ | ⟨q1, q3⟩
  · by_cases hg : v = 0 ∨ v = 1 ∨ v = 2 ∨ v = 5
    · exact hgood v hg q1 q2 q3
    · obtain ⟨z1, z2⟩ := (hwi v (by omega)).mp ⟨q1, q2⟩
      refine hbadw (fun r hr => ?_) (fun A x y => ?_) ⟨_, q3⟩
      · rw [q3] at hr
        injection hr with hr
        injection hr with hr _
        have e : ∀ w : Nat, w < 6 → nI v = nI w → v = w := fun w hw z => (n_eq (by omega) (by omega)).mp z
        rw [← hr]
        exact ⟨fun z => hg (Or.inl (e 0 (by decide) z)), fun z => hg (Or.inr (Or.inl (e 1 (by decide) z))), fun z => hg (Or.inr (Or.inr (Or.inl (e 2 (by decide) z)))), fun z => hg (Or.inr (Or.inr (Or.inr (e 5 (by decide) z))))⟩
      · rw [cd_t z1, z2, cd_f (by rw [n_lit, n_le (by omega) (by omega)]; omega), cd_f (by rw [n_lit, n_eq (by omega) (by omega)]; omega)]
  · refine hbadw (fun r hr => ?_) (fun A x y => ?_) ⟨_, q3⟩
    · rw [q3] at hr
      injection hr with hr
      injection hr with hr _
      rw [← hr]; decide
    · by_cases z1 : gI M2 0 20 = 0
      · -- then the word is 'from'
        have h7 : gI M2 0 21 = nI 7 := by
          rcases a2.2.2.2 with ⟨v1, v2⟩ | ⟨v1, v2, v3, v4⟩ | ⟨v1, v2, v3, v4⟩ | ⟨v1, v2, v3, v4⟩ | ⟨v1, v2, v3, v4, v5, v6⟩
          · rw [z1] at v2; exact absurd v2 (by decide)
          · rcases v4 with ⟨_, q, _⟩ | ⟨_, q, _⟩ | ⟨_, _, q⟩ <;> rw [z1] at q <;> exact absurd q (by decide)
          · rcases v4 with ⟨w, lw, hw, _, q⟩ | ⟨_, q⟩
            · have : ¬ w < 7 := fun z => q1 w z ⟨(kd_L a1.1 a1.2.1 a1.2.2.1).1.mpr ⟨v1, v2⟩, hw⟩
              rw [q, show w = 7 by omega]
            · rw [z1] at q; exact absurd q (by decide)
          · rw [z1] at v3; exact absurd v3 (by decide)
          · rcases v6 with ⟨_, q⟩ | ⟨_, q⟩ <;> rw [z1] at q <;> exact absurd q (by decide)
        rw [cd_t z1, h7, cd_f (by decide), cd_f (by decide)]
      · exact cd_f z1
