/-! look, pay, due, cost -/
theorem z10 : ¬ (1 : Int32) = 0 := by decide
section ASK
variable {SC D : HS} {LA NL : List Nat} {oA oL oN : Nat → Nat} {K : Int32} {p : Nat} {A : AA} {R : Nat → Option Nat} {sc : Option Nat}
theorem goTo_0 (d : DRel SC D LA NL oA oL oN) (hp : p < qP D) {day : Nat} (ld : day < 1200) (h : CI D oL K p LA NL 0 A R sc) : ∃ A' R' sc', fn_X7_goTo (nI day) (mc SC A R sc) = some (mc SC A' R' sc') ∧ CI D oL K p LA NL day A' R' sc' := by
  unfold fn_X7_goTo
  exact goTo_C d hp ld day 0 0 hFuel A R sc (by omega) (by omega) (by omega) (by unfold hFuel; omega) h
theorem begin_0 (d : DRel SC D LA NL oA oL oN) (hp : p < qP D) (K : Int32) : ∃ A' R' sc', fn_X7_begin (nI p) K SC = some (mc SC A' R' sc') ∧ CI D oL K p LA NL 0 A' R' sc' := by
  have := begin_C (A := gI SC) (R := gR SC 8) (sc := gR SC 12 0) (K := K) d hp
  rw [mc_self] at this
  exact this
theorem payDays_0 (d : DRel SC D LA NL oA oL oN) (hp : p < qP D) {day n : Nat} (ln : day + n < 1201) (h : CI D oL K p LA NL day A R sc) : ∃ A' R' sc', fn_X7_payOfDays (nI n) (mc SC A R sc) = some (psum D K p day n, mc SC A' R' sc') ∧ CI D oL K p LA NL (day + n) A' R' sc' := by
  unfold fn_X7_payOfDays
  obtain ⟨A', R', sc', q1, q2⟩ := payDays_C d hp ln n day 0 hFuel A R sc 0 (by omega) (by omega) (by omega) (by unfold hFuel; omega) h
  refine ⟨A', R', sc', ?_, q2⟩
  rw [mc_a11, h.2.2.1, n_add, bn_s]
  rw [show day + n - day = n by omega, Int64.zero_add] at q1
  exact q1
theorem passes_0 (hd : DOK D) (K : Int32) {x2 : Int32} {last : Nat} (hx : x2.toInt = (last : Int) - 1) (ll : last ≤ 1200) : ∃ A' J', fn_X9_passes K x2 D = some (mk D A' J') ∧ RP D K last A' J' := by
  have := passes_M (K := K) (A := gI D) (J := gJ D 34) hd hx ll
  rw [mk_self] at this
  exact this
theorem due_C (d : DRel SC D LA NL oA oL oN) (hp : p < qP D) {a b : Nat} (hab : a ≤ b) (hb : b < 40) : ∃ A' R' sc', fn_X8_dueOfMonths (nI p) (nI a) (nI b) K (mc SC A R sc) = some (psum D K p (30 * a) (30 * (b - a + 1)), mc SC A' R' sc') := by
  obtain ⟨A1, R1, sc1, q1, q2⟩ := begin_C (A := A) (R := R) (sc := sc) (K := K) d hp
  obtain ⟨A2, R2, sc2, r1, r2⟩ := goTo_0 d hp (by omega : 30 * a < 1200) q2
  obtain ⟨A3, R3, sc3, s1, s2⟩ := payDays_0 (n := 30 * (b - a + 1)) d hp (by omega) r2
  refine ⟨A3, R3, sc3, ?_⟩
  unfold fn_X8_dueOfMonths
  have t1 : nI a * 30 = nI (30 * a) := by rw [n_lit, n_mul, Nat.mul_comm]
  have t2 : (nI b - nI a + 1) * 30 = nI (30 * (b - a + 1)) := by rw [n_sub hab, n_lit, n_add, n_lit, n_mul, Nat.mul_comm]
  rw [q1, bn_s, t1, r1, bn_s, t2, s1, bn2_s]
end ASK
noncomputable def lkM (x1 x4 : Int32) (S8 : HS) : Option (Int32 × HS) := cd (9 ≤ x4) (cd (x4 = 9) (gd (vp_in x1 8) (some (gI S8 26 x1.toNatClampNeg, S8))) (cd (x4 = 10) (gd (vp_in x1 8) (some (gI S8 27 x1.toNatClampNeg, S8))) (cd (x4 = 11) (gd (vp_in x1 8) (gd (vp_in (gI S8 14 x1.toNatClampNeg) 8) (some (gI S8 24 (gI S8 14 x1.toNatClampNeg : Int32).toNatClampNeg, S8)))) (cd (x4 = 12) (gd (vp_in x1 8) (some (gI S8 28 x1.toNatClampNeg, S8))) (cd (x4 = 13) (gd (vp_in x1 8) (some (gI S8 29 x1.toNatClampNeg, S8))) (cd (x4 = 14) (gd (vp_in x1 8) (some (gI S8 30 x1.toNatClampNeg, S8))) (gd (vp_in x1 8) (some (gI S8 31 x1.toNatClampNeg, S8))))))))) (gd (vp_in ((9 * x1) + x4) 72) (some (gI S8 23 ((9 * x1) + x4 : Int32).toNatClampNeg, S8)))
theorem m_look (x1 x2 x3 x4 : Int32) : LIi RR (fn_X8_look x1 x2 x3 x4) (fn_X9_look x1 x2 x3 x4) := by
  refine LIi_of (fun SC SM hr => ?_)
  have hr' := RR_t hr
  obtain ⟨e, LA, NL, oA, oL, oN, d⟩ := hr
  unfold fn_X8_look fn_X9_look fn_X8_look_35 fn_X9_look_41
  simp only [bn_s]
  rcases isPost_C d.2.2.2.2.2.2.2.2.2.2.1 d.2.2.1.2.1 x1 with ⟨a1, a2, a3⟩ | ⟨a1, a2⟩
  · rcases isDay_C x2 with ⟨v1, i1, i2⟩ | ⟨i1, i2⟩
    · rcases isKnown_C e.2.1 e.1.1 x3 with ⟨v2, _, i3, i4⟩ | ⟨i3, i4⟩
      · simp only [a1, a2 (sI SM 0 0 0) (sI_nk (by decide)), i1, i2, bn2_s, i3 SC rfl, i4 (sI SM 0 0 0) (sI_nk (by decide)), z10, cd_F, cd_T]
        by_cases c0 : x4 < 0
        · exact ⟨_, _, _, cd_t c0, cd_t c0, hr'⟩
        by_cases c1 : x4 < 16
        · have c1' : x4 ≤ 15 := by
            rw [t_lt] at c1; rw [t_le]
            have q1 : (15 : Int32).toInt = 15 := rfl
            have q2 : (16 : Int32).toInt = 16 := rfl
            omega
          obtain ⟨w, lw, rfl⟩ := n_ex (n_lo' (n := 16) c0 c1 (by decide))
          obtain ⟨p, hp, rfl⟩ := n_ex a3
          obtain ⟨day, ld, rfl⟩ := n_ex v1
          rw [cd_f c0, cd_f c0, cd_t c1, cd_t c1']
          have d' : DRel SC (sI SM 0 0 0) LA NL oA oL oN := (MS_s0 (by decide)).DRel d
          have hp : p < qP (sI SM 0 0 0) := hp
          generalize sI SM 0 0 0 = D at *
          have hd := d'.2.2.1
          have lP : qP D < 9 := (n_of_in hd.2.1).2
          obtain ⟨A1, R1, sc1, q1, q2⟩ := begin_0 d' hp x3
          obtain ⟨A2, R2, sc2, r1, r2⟩ := goTo_0 d' hp ld q2
          obtain ⟨A3, J3, s1, s2⟩ := passes_0 (last := day + 1) hd x3 (x2 := nI day) (by rw [n_int (by omega)]; omega) (by omega)
          obtain ⟨h7, h8, h9, h10, h11, h14, h15, h16, h17, hv, hq, hL, h12, hap⟩ := r2
          obtain ⟨t1, t2, t3, t4, t5, t6⟩ := s2
          obtain ⟨o1, o2, o3, o4, o5, o6, o7, o8⟩ := t6 (by omega) p hp
          have hW := wl_WOK hd x3 day
          obtain ⟨c2, c3, c4, c5, c6, c7⟩ := d_cg hW (V := A2 13) (V' := vv D x3 day p) (fun j hj => hv j (by omega))
          obtain ⟨p1, p2, p3, p4, p5, p6, p7⟩ := hap
          rw [show day + 1 - 1 = day from rfl] at o1 o2 o3 o4 o5 t2
          have f1 : vp_in (nI p) 8 := (n_in (by omega)).mpr (by omega)
          have f2 : (nI p).toNatClampNeg = p := n_cl (by omega)
          have e14 : gI D 14 p = nI (per D p) := (n_of_in (hd.2.2.2.2.2.2.2.2.2 p (by omega))).1
          have l14 : per D p < 8 := (n_of_in (hd.2.2.2.2.2.2.2.2.2 p (by omega))).2
          suffices hfin : ∃ r, fn_X7_tell (nI w) (mc SC A2 R2 sc2) = some (r, mc SC A2 R2 sc2) ∧ lkM (nI p) (nI w) (mk D A3 J3) = some (r, mk D A3 J3) by
            obtain ⟨r, u1, u2⟩ := hfin
            refine ⟨r, mc SC A2 R2 sc2, mk D A3 J3, ?_, (bn_of s1).trans u2, mk_RR (mc_RR hr')⟩
            rw [q1, bn_s, r1, bn_s, u1, bn2_s]
          unfold lkM
          rcases Nat.lt_or_ge w 9 with lw9 | lw9
          · refine ⟨vv D x3 day p w, ?_, ?_⟩
            · unfold fn_X7_tell
              rw [cd_f (n_ge0 (by omega)), cd_f (by rw [n_le (by omega) (by omega)]; omega), gd_t ((n_in (by omega)).mpr lw9), n_cl (by omega), mc_a13, hv w lw9]
            · have tt : 9 * nI p + nI w = nI (9 * p + w) := by rw [n_lit, n_mul, n_add]
              rw [cd_f (by rw [n_lit, n_le (by omega) (by omega)]; omega), tt, gd_t ((n_in (by omega)).mpr (by omega)), n_cl (by omega), mk_a23, t1 p w (by omega) lw9]
              rfl
          · have g1 : ¬ nI w < 0 := n_ge0 (by omega)
            have g2 : nI 9 ≤ nI w := by rw [n_le (by omega) (by omega)]; omega
            have g2' : (9 : Int32) ≤ nI w := g2
            have gt : fn_X7_tell (nI w) (mc SC A2 R2 sc2) = fn_X7_tell_20 (nI w) (mc SC A2 R2 sc2) := by
              unfold fn_X7_tell
              rw [cd_f g1, cd_t g2]
            have f3 : vp_in (nI (per D p)) 8 := (n_in (by omega)).mpr l14
            have f4 : (nI (per D p)).toNatClampNeg = per D p := n_cl (by omega)
            rw [gt, cd_t g2']
            unfold fn_X7_tell_20
            simp only [f1, f2, f3, f4, gd_T, mk_g14, e14, mk_a26, mk_a27, mk_a28, mk_a29, mk_a30, mk_a31, mk_a24, o1, o2, o3, o4, o5, o6, (t2 _ l14).1, mc_a12, mc_a11, p2, p3, p4, p5, p6, h14, h17, c2, c3, c5, c6, c7]
            rcases (by omega : w = 9 ∨ w = 10 ∨ w = 11 ∨ w = 12 ∨ w = 13 ∨ w = 14 ∨ w = 15) with rfl | rfl | rfl | rfl | rfl | rfl | rfl
            · exact ⟨_, cd_t rfl, cd_t rfl⟩
            · exact ⟨_, (cd_f (by decide)).trans (cd_t rfl), (cd_f (by decide)).trans (cd_t rfl)⟩
            · exact ⟨_, (cd_f (by decide)).trans ((cd_f (by decide)).trans (cd_t rfl)), (cd_f (by decide)).trans ((cd_f (by decide)).trans (cd_t rfl))⟩
            · exact ⟨_, (cd_f (by decide)).trans ((cd_f (by decide)).trans ((cd_f (by decide)).trans (cd_t rfl))), (cd_f (by decide)).trans ((cd_f (by decide)).trans ((cd_f (by decide)).trans (cd_t rfl)))⟩
            · exact ⟨_, (cd_f (by decide)).trans ((cd_f (by decide)).trans ((cd_f (by decide)).trans ((cd_f (by decide)).trans (cd_t rfl)))), (cd_f (by decide)).trans ((cd_f (by decide)).trans ((cd_f (by decide)).trans ((cd_f (by decide)).trans (cd_t rfl))))⟩
            · exact ⟨_, (cd_f (by decide)).trans ((cd_f (by decide)).trans ((cd_f (by decide)).trans ((cd_f (by decide)).trans ((cd_f (by decide)).trans (cd_t rfl))))), (cd_f (by decide)).trans ((cd_f (by decide)).trans ((cd_f (by decide)).trans ((cd_f (by decide)).trans ((cd_f (by decide)).trans (cd_t rfl)))))⟩
            · exact ⟨_, (cd_f (by decide)).trans ((cd_f (by decide)).trans ((cd_f (by decide)).trans ((cd_f (by decide)).trans ((cd_f (by decide)).trans (cd_f (by decide)))))), (cd_f (by decide)).trans ((cd_f (by decide)).trans ((cd_f (by decide)).trans ((cd_f (by decide)).trans ((cd_f (by decide)).trans (cd_f (by decide))))))⟩
        · have c1' : ¬ x4 ≤ 15 := by
            rw [t_lt] at c1; rw [t_le]
            have q1 : (15 : Int32).toInt = 15 := rfl
            have q2 : (16 : Int32).toInt = 16 := rfl
            omega
          exact ⟨_, _, _, (cd_f c0).trans (cd_f c1), (cd_f c0).trans (cd_f c1'), hr'⟩
      · simp only [a1, a2 (sI SM 0 0 0) (sI_nk (by decide)), i1, i2, bn2_s, i3 SC rfl, i4 (sI SM 0 0 0) (sI_nk (by decide)), z10, cd_F, cd_T]
        exact ⟨_, _, _, rfl, rfl, hr'⟩
    · simp only [a1, a2 (sI SM 0 0 0) (sI_nk (by decide)), i1, i2, bn2_s, z10, cd_F, cd_T]
      exact ⟨_, _, _, rfl, rfl, hr'⟩
  · simp only [a1, a2 (sI SM 0 0 0) (sI_nk (by decide)), bn2_s, z10, cd_F, cd_T]
    exact ⟨_, _, _, rfl, rfl, hr'⟩
theorem m_pay (x1 x2 x3 : Int32) : LIl RR (fn_X8_pay x1 x2 x3) (fn_X9_pay x1 x2 x3) := by
  refine LIl_of (fun SC SM hr => ?_)
  have hr' := RR_t hr
  obtain ⟨e, LA, NL, oA, oL, oN, d⟩ := hr
  unfold fn_X8_pay fn_X9_pay fn_X8_pay_23 fn_X9_pay_29
  simp only [bn_s]
  rcases isPost_C d.2.2.2.2.2.2.2.2.2.2.1 d.2.2.1.2.1 x1 with ⟨a1, a2, a3⟩ | ⟨a1, a2⟩
  · rcases isDay_C x2 with ⟨v1, i1, i2⟩ | ⟨i1, i2⟩
    · rcases isKnown_C e.2.1 e.1.1 x3 with ⟨v2, _, i3, i4⟩ | ⟨i3, i4⟩
      · simp only [a1, a2 (sI SM 0 0 0) (sI_nk (by decide)), i1, i2, bn2_s, i3 SC rfl, i4 (sI SM 0 0 0) (sI_nk (by decide)), z10, cd_F, cd_T]
        obtain ⟨p, hp, rfl⟩ := n_ex a3
        obtain ⟨day, ld, rfl⟩ := n_ex v1
        have d' : DRel SC (sI SM 0 0 0) LA NL oA oL oN := (MS_s0 (by decide)).DRel d
        have hp : p < qP (sI SM 0 0 0) := hp
        generalize sI SM 0 0 0 = D at *
        have hd := d'.2.2.1
        have lP : qP D < 9 := (n_of_in hd.2.1).2
        obtain ⟨A1, R1, sc1, q1, q2⟩ := begin_0 d' hp x3
        obtain ⟨A2, R2, sc2, r1, r2⟩ := goTo_0 d' hp ld q2
        obtain ⟨A3, J3, s1, s2⟩ := passes_0 (last := day + 1) hd x3 (x2 := nI day) (by rw [n_int (by omega)]; omega) (by omega)
        obtain ⟨t1, t2, t3, t4, t5, t6⟩ := s2
        obtain ⟨o1, o2, o3, o4, o5, o6, o7, o8⟩ := t6 (by omega) p hp
        obtain ⟨_, _, x, ex, lx, mx⟩ := vv_K hd (K := x3) day p
        have t7 : 9 * nI p + 7 = nI (9 * p + 7) := by rw [n_lit, n_mul, n_lit, n_add]
        have f7 : A3 23 (9 * p + 7) = nI x := (t1 p 7 (by omega) (by decide)).trans ex
        refine ⟨payD D x3 p day, mc SC A2 R2 sc2, mk D A3 J3, by rw [q1, bn_s, r1, bn_s, payDay_C d' r2, bn2_s], ?_, mk_RR (mc_RR hr')⟩
        · rw [s1, bn_s, t7, gd_t ((n_in (by omega)).mpr (by omega)), n_cl (by omega), mk_a23, f7, gd_t ((n_in (by omega)).mpr (by omega)), gd_t (i64_ne mx lx), n_cl (by omega), mk_a31, o6]
          unfold payD payI
          rw [show day + 1 - 1 = day from rfl, ex]
      · simp only [a1, a2 (sI SM 0 0 0) (sI_nk (by decide)), i1, i2, bn2_s, i3 SC rfl, i4 (sI SM 0 0 0) (sI_nk (by decide)), z10, cd_F, cd_T]
        exact ⟨_, _, _, rfl, rfl, hr'⟩
    · simp only [a1, a2 (sI SM 0 0 0) (sI_nk (by decide)), i1, i2, bn2_s, z10, cd_F, cd_T]
      exact ⟨_, _, _, rfl, rfl, hr'⟩
  · simp only [a1, a2 (sI SM 0 0 0) (sI_nk (by decide)), bn2_s, z10, cd_F, cd_T]
    exact ⟨_, _, _, rfl, rfl, hr'⟩
theorem m_due (x1 x2 x3 : Int32) : LIl RR (fn_X8_due x1 x2 x3) (fn_X9_due x1 x2 x3) := by
  refine LIl_of (fun SC SM hr => ?_)
  have hr' := RR_t hr
  obtain ⟨e, LA, NL, oA, oL, oN, d⟩ := hr
  unfold fn_X8_due fn_X9_due fn_X8_due_23 fn_X9_due_31
  simp only [bn_s]
  rcases isPost_C d.2.2.2.2.2.2.2.2.2.2.1 d.2.2.1.2.1 x1 with ⟨a1, a2, a3⟩ | ⟨a1, a2⟩
  · rcases isMonth_C SC x2 with ⟨b1, b2, b3, b4⟩ | ⟨b2, b3⟩
    · rcases isKnown_C e.2.1 e.1.1 x3 with ⟨v2, _, i3, i4⟩ | ⟨i3, i4⟩
      · simp only [a1, a2 (sI SM 0 0 0) (sI_nk (by decide)), b2, bn2_s, i3 SC rfl, i4 (sI SM 0 0 0) (sI_nk (by decide)), z10, cd_F, cd_T]
        simp only [b3, b4, cd_F]
        obtain ⟨p, hp, rfl⟩ := n_ex a3
        obtain ⟨mo, lm, rfl⟩ := n_ex b1
        have d' : DRel SC (sI SM 0 0 0) LA NL oA oL oN := (MS_s0 (by decide)).DRel d
        have hp : p < qP (sI SM 0 0 0) := hp
        generalize sI SM 0 0 0 = D at *
        have hd := d'.2.2.1
        have lP : qP D < 9 := (n_of_in hd.2.1).2
        obtain ⟨A2, R2, sc2, r1⟩ := due_C (A := gI SC) (R := gR SC 8) (sc := gR SC 12 0) (K := x3) d' hp (Nat.le_refl mo) (by omega)
        rw [mc_self] at r1
        have t9 : 30 * nI mo + 29 = nI (30 * mo + 29) := by rw [n_lit, n_mul, n_lit, n_add]
        obtain ⟨A3, J3, s1, s2⟩ := passes_0 (last := 30 * mo + 30) hd x3 (x2 := nI (30 * mo + 29)) (by rw [n_int (by omega)]; omega) (by omega)
        obtain ⟨t1, t2, t3, t4, t5, t6⟩ := s2
        have t4' : 40 * nI p + nI mo = nI (40 * p + mo) := by rw [n_lit, n_mul, n_add]
        refine ⟨psum D x3 p (30 * mo) (30 * (mo - mo + 1)), mc SC A2 R2 sc2, mk D A3 J3, by rw [r1, bn2_s], ?_, mk_RR (mc_RR hr')⟩
        · rw [t9, s1, bn_s, t4', gd_t ((n_in (by omega)).mpr (by omega)), n_cl (by omega), mk_j, t5 p mo hp lm]
          unfold dsum
          rw [show min 30 (30 * mo + 30 - 30 * mo) = 30 * (mo - mo + 1) by omega]
      · simp only [a1, a2 (sI SM 0 0 0) (sI_nk (by decide)), b2, bn2_s, i3 SC rfl, i4 (sI SM 0 0 0) (sI_nk (by decide)), z10, cd_F, cd_T]
        exact ⟨_, _, _, rfl, (cd_f b3).trans (cd_f b4), hr'⟩
    · simp only [a1, a2 (sI SM 0 0 0) (sI_nk (by decide)), b2, bn2_s, z10, cd_F, cd_T]
      refine ⟨_, _, _, rfl, ?_, hr'⟩
      by_cases q : x2 < 0
      · exact cd_t q
      · exact (cd_f q).trans (cd_t (b3.resolve_left q))
  · simp only [a1, a2 (sI SM 0 0 0) (sI_nk (by decide)), bn2_s, z10, cd_F, cd_T]
    exact ⟨_, _, _, rfl, rfl, hr'⟩
