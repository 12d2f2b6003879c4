/-! the class's walk: agreements and notes of a day -/
section WALK1
variable {S D : HS} {LA NL : List Nat} {oA oL oN : Nat → Nat} {sc : Option Nat} {K : Int32}
theorem takeA_5 (d : DRel S D LA NL oA oL oN) {day : Nat} (hday : day < 1201) : ∀ (rest : List Nat) (i m : Nat) (A : AA) (R : Nat → Option Nat), LA.drop i = rest → rest.length < m → i ≤ LA.length → A 11 10 = nI i → A 11 9 = nI day → A 11 8 = K → (A 11 12 = 0 ∨ A 11 12 = 1) → LC D oL 1200 K ((LA.take i).flatMap (lns D)) A R →
    ∃ A' R', fn_X7_takeAgreements_5 m (nI i) (mc S A R sc) = some (mc S A' R' sc) ∧ A' 11 10 = nI (i + (rest.takeWhile (fun k => decide (qF D k ≤ day))).length) ∧ LC D oL 1200 K ((LA.take (i + (rest.takeWhile (fun k => decide (qF D k ≤ day))).length)).flatMap (lns D)) A' R' ∧ (A' 11 12 = 1 ∨ (A' 11 12 = 0 ∧ A 11 12 = 0 ∧ ∀ a ∈ rest.takeWhile (fun k => decide (qF D k ≤ day)), ¬ gI D 2 a ≤ K)) ∧ (∀ c, c ≠ 9 → c ≠ 10 → c ≠ 11 → A' c = A c) ∧ ∀ j, j ≠ 10 → j ≠ 12 → A' 11 j = A 11 j := by
  have hd := d.2.2.1
  have la : qA D < 13 := (n_of_in hd.1).2
  obtain ⟨k4, s4, l4, _⟩ := sz_A d
  have hsz : ∀ A R, fl_size 4 (mc S A R sc) = some (nI LA.length, mc S A R sc) := fun A R => by
    rw [fz (by exact k4), mc_lo (by decide), s4, l4]; exact congrArg (fun x => some (x, mc S A R sc)) (n_of_in hd.1).1
  intro rest
  induction rest with
  | nil =>
    intro i m A R e hm hi h10 h9 h8 h12 h
    obtain ⟨m, rfl⟩ : ∃ k, m = k + 1 := ⟨m - 1, by omega⟩
    have l := drop_n e
    refine ⟨A, R, ?_, h10, h, ?_, fun c _ _ _ => rfl, fun j _ _ => rfl⟩
    · conv => lhs; unfold fn_X7_takeAgreements_5
      rw [hsz, bn2_s, cd_t (by rw [n_le (by omega) (by omega)]; omega)]
    · rcases h12 with q | q
      · exact Or.inr ⟨q, q, fun a ha => by simp at ha⟩
      · exact Or.inl q
  | cons a rest ih =>
    intro i m A R e hm hi h10 h9 h8 h12 h
    obtain ⟨m, rfl⟩ : ∃ k, m = k + 1 := ⟨m - 1, by omega⟩
    obtain ⟨li, ea, e'⟩ := drop_c e
    have ha : a < qA D := by
      have := getD_mem li
      rw [ea] at this
      exact List.mem_range.mp (d.2.2.2.1.1.mem_iff.mp this)
    have hget : ∀ A R, fl_get 4 (nI i) (mc S A R sc) = some (some (oA a), mc S A R sc) := fun A R => by
      rw [JG_get (mc_DRel d).2.2.2.2.1 (by rw [List.length_map]; exact li) (by decide), getD_map li, ea]
    have eT : (LA.take (i + 1)).flatMap (lns D) = (LA.take i).flatMap (lns D) ++ lns D a := by rw [take_s LA li, List.flatMap_append, ea]; simp
    obtain ⟨a1, a2, a3, a4, a5, _⟩ := d.2.2.2.2.2.2.2.1 a ha
    have l11 : qF D a < 1200 := (n_of_in (hd.2.2.2.1 a ha)).2
    have s1 : ∀ A R, gI (mc S A R sc) (oA a) 1 = nI (qF D a) := fun A R => by rw [mc_hi (by omega), a4]; exact (n_of_in (hd.2.2.2.1 a ha)).1
    have s2 : ∀ A R, gI (mc S A R sc) (oA a) 2 = gI D 2 a := fun A R => by rw [mc_hi (by omega), a5]
    have f1 : ¬ nI LA.length ≤ nI i := by rw [n_le (by omega) (by omega)]; omega
    have f2 : nI i + 1 = nI (i + 1) := by rw [n_lit, n_add]
    rw [List.length_cons] at hm
    by_cases c1 : qF D a ≤ day
    · have g1 : nI (qF D a) ≤ nI day := by rw [n_le (by omega) (by omega)]; exact c1
      have eW : (a :: rest).takeWhile (fun k => decide (qF D k ≤ day)) = a :: rest.takeWhile (fun k => decide (qF D k ≤ day)) := List.takeWhile_cons_of_pos (by simpa using c1)
      rw [eW, List.length_cons]
      by_cases c2 : K < gI D 2 a
      · have c2' : ¬ gI D 2 a ≤ K := by simpa using c2
        obtain ⟨A2, R2, r1, r2, r3, r4, r5, r6⟩ := ih (i + 1) m (up2 A 11 10 (nI (i + 1))) R e' (by omega) (by omega) up2_eq (by rw [up2_nk (by decide)]; exact h9) (by rw [up2_nk (by decide)]; exact h8) (by rw [up2_nk (by decide)]; exact h12) (by
          intro k hk
          obtain ⟨w1, w2, w3⟩ := wf_skip (D := D) (day := 1200) (K := K) (k := k) (qs := (LA.take i).flatMap (lns D)) (rs := lns D a) (fun q hq z => c2' (by have := (mem_lns.mp hq).1; rw [← this]; exact z.2.1))
          rw [eT, w2, w3, up2_ne (by decide), up2_ne (by decide)]
          exact h k hk)
        refine ⟨A2, R2, ?_, by rw [r2]; congr 1; omega, by rw [show i + ((rest.takeWhile (fun k => decide (qF D k ≤ day))).length + 1) = i + 1 + (rest.takeWhile (fun k => decide (qF D k ≤ day))).length by omega]; exact r3, ?_, fun c z1 z2 z3 => (r5 c z1 z2 z3).trans (up2_ne z3), fun j z1 z2 => (r6 j z1 z2).trans (up2_nk z1)⟩
        · rw [← r1]
          conv => lhs; unfold fn_X7_takeAgreements_5
          simp only [hsz, hget, s1, s2, f1, f2, mc_K, a2, mc_a11, h8, h9, h10, g1, c2, cd_F, cd_T, gd_T, bn_s, bn2_s, fn_X7_takeAgreements_64, mc_s11]
        · rcases r4 with q | ⟨q1, q2, q3⟩
          · exact Or.inl q
          · rw [up2_nk (by decide)] at q2
            refine Or.inr ⟨q1, q2, fun b hb => ?_⟩
            rcases List.mem_cons.mp hb with rfl | hb
            · exact c2'
            · exact q3 b hb
      · have c2' : gI D 2 a ≤ K := by simpa using c2
        obtain ⟨A1, R1, q1, q2, q3⟩ := take_C (sc := sc) d ha ⟨c2', (by omega : qF D a ≤ 1200)⟩ h
        obtain ⟨A2, R2, r1, r2, r3, r4, r5, r6⟩ := ih (i + 1) m (up2 (up2 A1 11 12 1) 11 10 (nI (i + 1))) R1 e' (by omega) (by omega) up2_eq (by rw [up2_nk (by decide), up2_nk (by decide), q3 11 (by decide) (by decide)]; exact h9) (by rw [up2_nk (by decide), up2_nk (by decide), q3 11 (by decide) (by decide)]; exact h8) (by rw [up2_nk (by decide), up2_eq]; exact Or.inr rfl) (by
          intro k hk
          rw [eT, up2_ne (by decide), up2_ne (by decide), up2_ne (by decide), up2_ne (by decide)]
          exact q2 k hk)
        refine ⟨A2, R2, ?_, by rw [r2]; congr 1; omega, by rw [show i + ((rest.takeWhile (fun k => decide (qF D k ≤ day))).length + 1) = i + 1 + (rest.takeWhile (fun k => decide (qF D k ≤ day))).length by omega]; exact r3, ?_, fun c z1 z2 z3 => (r5 c z1 z2 z3).trans ((up2_ne z3).trans ((up2_ne z3).trans (q3 c z1 z2))), fun j z1 z2 => (r6 j z1 z2).trans ((up2_nk z1).trans ((up2_nk z2).trans (by rw [q3 11 (by decide) (by decide)])))⟩
        · rw [← r1]
          conv => lhs; unfold fn_X7_takeAgreements_5
          have h10' : A1 11 10 = nI i := by rw [q3 11 (by decide) (by decide)]; exact h10
          simp only [hsz, hget, s1, s2, f1, f2, mc_K, a2, mc_a11, h8, h9, h10', g1, c2, q1, cd_F, cd_T, gd_T, bn_s, bn2_s, fn_X7_takeAgreements_64, mc_s11, up2_nk (show (10 : Nat) ≠ 12 by decide)]
        · rcases r4 with q | ⟨q1, q2, q3⟩
          · exact Or.inl q
          · rw [up2_nk (by decide), up2_eq] at q2
            exact absurd q2 (by decide)
    · have g1 : ¬ nI (qF D a) ≤ nI day := by rw [n_le (by omega) (by omega)]; exact c1
      have eW : (a :: rest).takeWhile (fun k => decide (qF D k ≤ day)) = [] := List.takeWhile_cons_of_neg (by simpa using c1)
      rw [eW]
      refine ⟨A, R, ?_, h10, h, ?_, fun c _ _ _ => rfl, fun j _ _ => rfl⟩
      · conv => lhs; unfold fn_X7_takeAgreements_5
        simp only [hsz, hget, s1, f1, mc_K, a2, mc_a11, h9, g1, cd_F, gd_T, bn_s, bn2_s]
      · rcases h12 with q | q
        · exact Or.inr ⟨q, q, fun a ha => by simp at ha⟩
        · exact Or.inl q
/-! notes -/
def NC (D : HS) (K : Int32) (p : Nat) (v : Nat → Nat → Int32) (t : Int32 × Int32) (g : Int32) (A1 : AA) (ks : List Nat) (A : AA) : Prop :=
  (∀ w, w < 9 → A 13 w = ks.foldl (nst D K) v p w) ∧ (∀ q, q < 8 → A 14 q = ks.foldl (nst D K) v q 6) ∧
  ((A 11 13 = 0 ∧ ks.foldl (pfl D K p g) t = t) ∨ (A 11 13 = 1 ∧ ks.foldl (pfl D K p g) t = (if ks.foldl (nst D K) v p 8 = 1 then 1 else 0, g))) ∧
  (A 11 12 = 1 ∨ (A 11 12 = 0 ∧ A1 11 12 = 0 ∧ ∀ w, w < 6 → A 13 w = A1 13 w)) ∧
  (∀ c, c ≠ 11 → c ≠ 13 → c ≠ 14 → A c = A1 c) ∧ ∀ j, j ≠ 11 → j ≠ 12 → j ≠ 13 → A 11 j = A1 11 j
def t41 (w0 : Nat) (x : Int32) (A : AA) : AA := if w0 = 8 then up2 (up2 A 13 w0 x) 11 13 1 else if w0 < 6 then up2 (up2 A 13 w0 x) 11 12 1 else up2 A 13 w0 x
theorem takeNote_41 (d : DRel S D LA NL oA oL oN) {k p q0 w0 : Nat} {A : AA} {R : Nat → Option Nat} (hk : k < qN D) (eq : gI D 15 k = nI q0) (lq : q0 < 8) (ew : gI D 16 k = nI w0) (lw : w0 < 9) (hp : A 11 7 = nI p) (lp : p < 8) : fn_X7_takeNote_41 (oN k) (mc S A R sc) = some (mc S (if q0 = p then t41 w0 (gI D 19 k) A else A) R sc) := by
  obtain ⟨b1, b2, b3, b4, b5, b6, b7⟩ := d.2.2.2.2.2.2.2.2.2.1 k hk
  have s0 : ∀ A R, gI (mc S A R sc) (oN k) 0 = nI q0 := fun A R => by rw [mc_hi (by omega), b3, eq]
  have s1 : ∀ A R, gI (mc S A R sc) (oN k) 1 = nI w0 := fun A R => by rw [mc_hi (by omega), b4, ew]
  have s4 : ∀ A R, gI (mc S A R sc) (oN k) 4 = gI D 19 k := fun A R => by rw [mc_hi (by omega), b7]
  have f1 : ¬ nI w0 < 0 := n_ge0 (by omega)
  have f2 : nI w0 < nI 9 := by rw [n_lt (by omega) (by omega)]; exact lw
  have f3 : vp_in (nI w0) 9 := (n_in (by omega)).mpr lw
  have f4 : (nI w0).toNatClampNeg = w0 := n_cl (by omega)
  unfold fn_X7_takeNote_41 fn_X7_takeNote_99 fn_X7_takeNote_113 fn_X7_takeNote_71
  simp only [mc_K, b2, s0, s1, s4, f1, f2, f3, f4, mc_a11, hp, gd_T, cd_F, cd_T, bn_s, mc_s13, mc_s11]
  by_cases c : q0 = p
  · rw [cd_t (by rw [c]), if_pos c]
    unfold t41
    by_cases c8 : w0 = 8
    · have g1 : (6 : Int32) ≤ nI w0 := by rw [n_lit, n_le (by omega) (by omega)]; omega
      have g2 : nI w0 = 8 := by rw [c8]; rfl
      rw [cd_t g1, cd_t g2, if_pos c8]
    · have g2 : ¬ nI w0 = 8 := by rw [n_lit, n_eq (by omega) (by omega)]; exact c8
      rw [if_neg c8]
      by_cases c6 : w0 < 6
      · have g1 : ¬ (6 : Int32) ≤ nI w0 := by rw [n_lit, n_le (by omega) (by omega)]; omega
        rw [cd_f g1, cd_f g2, if_pos c6]
      · have g1 : (6 : Int32) ≤ nI w0 := by rw [n_lit, n_le (by omega) (by omega)]; omega
        rw [cd_t g1, cd_f g2, if_neg c6]
  · rw [cd_f (by rw [n_eq (by omega) (by omega)]; exact c), if_neg c]
theorem t41_13 {w0 w : Nat} {x : Int32} {A : AA} : t41 w0 x A 13 w = if w = w0 then x else A 13 w := by
  have e : up2 A 13 w0 x 13 w = if w = w0 then x else A 13 w := by unfold up2; simp only [true_and]
  unfold t41
  split
  · rw [up2_ne (by decide), e]
  · split
    · rw [up2_ne (by decide), e]
    · exact e
theorem t41_c {w0 c : Nat} {x : Int32} {A : AA} (h1 : c ≠ 11) (h2 : c ≠ 13) : t41 w0 x A c = A c := by
  unfold t41
  split
  · rw [up2_ne h1, up2_ne h2]
  · split
    · rw [up2_ne h1, up2_ne h2]
    · rw [up2_ne h2]
theorem t41_j {w0 j : Nat} {x : Int32} {A : AA} (h1 : j ≠ 12) (h2 : j ≠ 13) : t41 w0 x A 11 j = A 11 j := by
  unfold t41
  split
  · rw [up2_nk h2, up2_ne (by decide)]
  · split
    · rw [up2_nk h1, up2_ne (by decide)]
    · rw [up2_ne (by decide)]
theorem takeNote_C (d : DRel S D LA NL oA oL oN) {k p : Nat} {v : Nat → Nat → Int32} {t : Int32 × Int32} {g : Int32} {A1 A : AA} {R : Nat → Option Nat} {ks : List Nat} (hk : k < qN D) (hK : gI D 18 k ≤ K) (lp : p < 8) (hp : A1 11 7 = nI p) (h : NC D K p v t g A1 ks A) : ∃ A', fn_X7_takeNote (oN k) (mc S A R sc) = some (mc S A' R sc) ∧ NC D K p v t g A1 (ks ++ [k]) A' ∧ A' 11 11 = A 11 11 := by
  have hd := d.2.2.1
  have lP : qP D < 9 := (n_of_in hd.2.1).2
  obtain ⟨n1, n2, n3, n4⟩ := hd.2.2.2.2.2.2.2.2.1 k hk
  obtain ⟨q0, lq, eq⟩ := n_ex n1
  obtain ⟨w0, lw, ew⟩ := n_ex n2
  obtain ⟨b1, b2, b3, b4, b5, b6, b7⟩ := d.2.2.2.2.2.2.2.2.2.1 k hk
  have s0 : ∀ A R, gI (mc S A R sc) (oN k) 0 = nI q0 := fun A R => by rw [mc_hi (by omega), b3, eq]
  have s1 : ∀ A R, gI (mc S A R sc) (oN k) 1 = nI w0 := fun A R => by rw [mc_hi (by omega), b4, ew]
  have s4 : ∀ A R, gI (mc S A R sc) (oN k) 4 = gI D 19 k := fun A R => by rw [mc_hi (by omega), b7]
  have hnst : ∀ u, nst D K u k = up2 u q0 w0 (gI D 19 k) := fun u => by unfold nst; rw [if_pos hK, eq, ew, n_cl (by omega), n_cl (by omega)]
  obtain ⟨i1, i2, i3, i4, i5, i6⟩ := h
  have hB : fn_X7_takeNote (oN k) (mc S A R sc) = fn_X7_takeNote_41 (oN k) (mc S (if w0 = 6 then up2 A 14 q0 (gI D 19 k) else A) R sc) := by
    unfold fn_X7_takeNote
    have f1 : ¬ nI q0 < 0 := n_ge0 (by omega)
    have f2 : ¬ nI 8 ≤ nI q0 := by rw [n_le (by omega) (by omega)]; omega
    have f3 : vp_in (nI q0) 8 := (n_in (by omega)).mpr (by omega)
    have f4 : (nI q0).toNatClampNeg = q0 := n_cl (by omega)
    simp only [mc_K, b2, s0, s1, s4, f1, f2, f3, f4, gd_T, cd_F, bn_s, mc_s14]
    by_cases c : w0 = 6
    · rw [cd_t (by rw [c]; rfl), if_pos c]
    · rw [cd_f (by rw [n_lit, n_eq (by omega) (by omega)]; exact c), if_neg c]
  generalize hX : (if w0 = 6 then up2 A 14 q0 (gI D 19 k) else A) = B at hB
  have x11 : B 11 = A 11 := by rw [← hX]; split; · exact up2_ne (by decide)
                               · rfl
  have x13 : B 13 = A 13 := by rw [← hX]; split; · exact up2_ne (by decide)
                               · rfl
  have xc : ∀ c, c ≠ 14 → B c = A c := fun c hc => by rw [← hX]; split; · exact up2_ne hc
                                                      · rfl
  have x14 : ∀ q, B 14 q = if q = q0 ∧ 6 = w0 then gI D 19 k else A 14 q := fun q => by
    rw [← hX]
    by_cases c : w0 = 6
    · rw [if_pos c]; unfold up2; subst c; simp
    · rw [if_neg c, if_neg (fun z => c z.2.symm)]
  have hp' : B 11 7 = nI p := by rw [x11, i6 7 (by decide) (by decide) (by decide)]; exact hp
  refine ⟨if q0 = p then t41 w0 (gI D 19 k) B else B, by rw [hB, takeNote_41 d hk eq (by omega) ew lw hp' lp], ⟨?_, ?_, ?_, ?_, ?_, ?_⟩, ?_⟩
  · intro w hw
    rw [List.foldl_append]
    show _ = nst D K (ks.foldl (nst D K) v) k p w
    rw [hnst]
    unfold up2
    by_cases c : q0 = p
    · rw [if_pos c, t41_13, x13]
      by_cases c2 : w = w0
      · rw [if_pos c2, if_pos ⟨c.symm, c2⟩]
      · rw [if_neg c2, if_neg (fun z => c2 z.2)]; exact i1 w hw
    · rw [if_neg c, x13, if_neg (fun z => c z.1.symm)]; exact i1 w hw
  · intro q hq
    rw [List.foldl_append]
    show _ = nst D K (ks.foldl (nst D K) v) k q 6
    have e14 : (if q0 = p then t41 w0 (gI D 19 k) B else B) 14 = B 14 := by
      split
      · exact t41_c (by decide) (by decide)
      · rfl
    rw [hnst, e14, x14 q]
    unfold up2
    by_cases c : q = q0 ∧ 6 = w0
    · rw [if_pos c, if_pos c]
    · rw [if_neg c, if_neg c]; exact i2 q hq
  · rw [List.foldl_append, List.foldl_append]
    show (_ ∧ pfl D K p g _ k = t) ∨ (_ ∧ pfl D K p g _ k = (if nst D K (ks.foldl (nst D K) v) k p 8 = 1 then 1 else 0, g))
    by_cases c : q0 = p ∧ w0 = 8
    · right
      obtain ⟨rfl, rfl⟩ := c
      refine ⟨?_, ?_⟩
      · rw [if_pos rfl]; unfold t41; rw [if_pos rfl, up2_eq]
      · rw [pfl_t ⟨hK, by rw [eq, n_cl (by omega)], ew⟩, hnst, up2_eq]
    · have e13 : (if q0 = p then t41 w0 (gI D 19 k) B else B) 11 13 = A 11 13 := by
        split
        · rename_i c1
          have c8 : ¬ w0 = 8 := fun z => c ⟨c1, z⟩
          unfold t41
          rw [if_neg c8]
          split
          · rw [up2_nk (by decide), up2_ne (by decide), x11]
          · rw [up2_ne (by decide), x11]
        · rw [x11]
      have epf : ∀ t, pfl D K p g t k = t := fun t => pfl_f (fun z => c ⟨by have := z.2.1; rw [eq, n_cl (by omega)] at this; exact this, by have := z.2.2; rw [ew, n_lit, n_eq (by omega) (by omega)] at this; exact this⟩)
      have ens : nst D K (ks.foldl (nst D K) v) k p 8 = ks.foldl (nst D K) v p 8 := by
        rw [hnst]; unfold up2; rw [if_neg (fun z => c ⟨z.1.symm, z.2.symm⟩)]
      rw [e13, epf, ens]
      exact i3
  · by_cases c : q0 = p ∧ w0 < 6
    · left
      rw [if_pos c.1]; unfold t41; rw [if_neg (by omega), if_pos c.2, up2_eq]
    · have e12 : (if q0 = p then t41 w0 (gI D 19 k) B else B) 11 12 = A 11 12 := by
        split
        · rename_i c1
          have c6 : ¬ w0 < 6 := fun z => c ⟨c1, z⟩
          unfold t41
          split
          · rw [up2_nk (by decide), up2_ne (by decide), x11]
          · rw [up2_ne (by decide), x11]
        · rw [x11]
      have e13 : ∀ w, w < 6 → (if q0 = p then t41 w0 (gI D 19 k) B else B) 13 w = A 13 w := by
        intro w hw
        split
        · rename_i c1
          rw [t41_13, if_neg (fun z => c ⟨c1, by omega⟩), x13]
        · rw [x13]
      rw [e12]
      rcases i4 with q | ⟨q1, q2, q3⟩
      · exact Or.inl q
      · exact Or.inr ⟨q1, q2, fun w hw => (e13 w hw).trans (q3 w hw)⟩
  · intro c h1 h2 h3
    split
    · rw [t41_c h1 h2, xc c h3]; exact i5 c h1 h2 h3
    · rw [xc c h3]; exact i5 c h1 h2 h3
  · intro j h1 h2 h3
    split
    · rw [t41_j h2 h3, x11]; exact i6 j h1 h2 h3
    · rw [x11]; exact i6 j h1 h2 h3
  · split
    · rw [t41_j (by decide) (by decide), x11]
    · rw [x11]
theorem takeN_10 (d : DRel S D LA NL oA oL oN) {day p : Nat} (hday : day < 1201) (lp : p < 8) {v : Nat → Nat → Int32} {t : Int32 × Int32} {g : Int32} {A1 : AA} {R : Nat → Option Nat} (hp : A1 11 7 = nI p) (h9 : A1 11 9 = nI day) (h8 : A1 11 8 = K) : ∀ (rest : List Nat) (i m : Nat) (A : AA) (ks : List Nat), NL.drop i = rest → rest.length < m → i ≤ NL.length → A 11 11 = nI i → NC D K p v t g A1 ks A →
    ∃ A', fn_X7_takeNotes_10 m (nI i) (mc S A R sc) = some (mc S A' R sc) ∧ A' 11 11 = nI (i + (rest.takeWhile (fun k => decide (nFr D k ≤ day))).length) ∧ NC D K p v t g A1 (ks ++ rest.takeWhile (fun k => decide (nFr D k ≤ day))) A' := by
  have hd := d.2.2.1
  have ln : qN D < 201 := (n_of_in hd.2.2.1).2
  obtain ⟨_, _, _, k5, s5, l5⟩ := sz_A d
  have hsz : ∀ A R, fl_size 5 (mc S A R sc) = some (nI NL.length, mc S A R sc) := fun A R => by
    rw [fz (by exact k5), mc_lo (by decide), s5, l5]; exact congrArg (fun x => some (x, mc S A R sc)) (n_of_in hd.2.2.1).1
  intro rest
  induction rest with
  | nil =>
    intro i m A ks e hm hi h11 h
    obtain ⟨m, rfl⟩ : ∃ k, m = k + 1 := ⟨m - 1, by omega⟩
    have l := drop_n e
    refine ⟨A, ?_, h11, by rw [List.takeWhile_nil, List.append_nil]; exact h⟩
    conv => lhs; unfold fn_X7_takeNotes_10
    rw [hsz, bn2_s, cd_t (by rw [n_le (by omega) (by omega)]; omega)]
  | cons k rest ih =>
    intro i m A ks e hm hi h11 h
    obtain ⟨m, rfl⟩ : ∃ k, m = k + 1 := ⟨m - 1, by omega⟩
    obtain ⟨li, ea, e'⟩ := drop_c e
    have hk : k < qN D := by
      have := getD_mem li
      rw [ea] at this
      exact List.mem_range.mp (d.2.2.2.1.2.2.2.1.mem_iff.mp this)
    have hget : ∀ A R, fl_get 5 (nI i) (mc S A R sc) = some (some (oN k), mc S A R sc) := fun A R => by
      rw [JG_get (mc_DRel d).2.2.2.2.2.1 (by rw [List.length_map]; exact li) (by decide), getD_map li, ea]
    obtain ⟨b1, b2, b3, b4, b5, b6, b7⟩ := d.2.2.2.2.2.2.2.2.2.1 k hk
    obtain ⟨n1, n2, n3, n4⟩ := hd.2.2.2.2.2.2.2.2.1 k hk
    have l17 : nFr D k < 1200 := (n_of_in n3).2
    have s2 : ∀ A R, gI (mc S A R sc) (oN k) 2 = nI (nFr D k) := fun A R => by rw [mc_hi (by omega), b5]; exact (n_of_in n3).1
    have s3 : ∀ A R, gI (mc S A R sc) (oN k) 3 = gI D 18 k := fun A R => by rw [mc_hi (by omega), b6]
    have a9 : A 11 9 = nI day := (h.2.2.2.2.2 9 (by decide) (by decide) (by decide)).trans h9
    have a8 : A 11 8 = K := (h.2.2.2.2.2 8 (by decide) (by decide) (by decide)).trans h8
    have f1 : ¬ nI NL.length ≤ nI i := by rw [n_le (by omega) (by omega)]; omega
    have f2 : nI i + 1 = nI (i + 1) := by rw [n_lit, n_add]
    have hset : ∀ ks A, NC D K p v t g A1 ks A → NC D K p v t g A1 ks (up2 A 11 11 (nI (i + 1))) := by
      rintro ks A ⟨j1, j2, j3, j4, j5, j6⟩
      refine ⟨?_, ?_, ?_, ?_, ?_, ?_⟩
      · rw [up2_ne (by decide)]; exact j1
      · rw [up2_ne (by decide)]; exact j2
      · rw [up2_nk (by decide)]; exact j3
      · rw [up2_nk (by decide), up2_ne (by decide)]; exact j4
      · intro c z1 z2 z3; rw [up2_ne z1]; exact j5 c z1 z2 z3
      · intro j z1 z2 z3; rw [up2_nk z1]; exact j6 j z1 z2 z3
    rw [List.length_cons] at hm
    by_cases c1 : nFr D k ≤ day
    · have g1 : nI (nFr D k) ≤ nI day := by rw [n_le (by omega) (by omega)]; exact c1
      have eW : (k :: rest).takeWhile (fun k => decide (nFr D k ≤ day)) = k :: rest.takeWhile (fun k => decide (nFr D k ≤ day)) := List.takeWhile_cons_of_pos (by simpa using c1)
      rw [eW, List.length_cons, show ks ++ k :: rest.takeWhile (fun k => decide (nFr D k ≤ day)) = (ks ++ [k]) ++ rest.takeWhile (fun k => decide (nFr D k ≤ day)) by simp]
      by_cases c2 : K < gI D 18 k
      · have c2' : ¬ gI D 18 k ≤ K := by simpa using c2
        obtain ⟨A2, r1, r2, r3⟩ := ih (i + 1) m (up2 A 11 11 (nI (i + 1))) (ks ++ [k]) e' (by omega) (by omega) up2_eq (hset _ _ (by
          obtain ⟨j1, j2, j3, j4, j5, j6⟩ := h
          have en : ∀ u, nst D K u k = u := fun u => by unfold nst; rw [if_neg c2']
          have ep : ∀ u, pfl D K p g u k = u := fun u => pfl_f (fun z => c2' z.1)
          unfold NC
          rw [List.foldl_append, List.foldl_append]
          show (∀ w, w < 9 → A 13 w = nst D K _ k p w) ∧ (∀ q, q < 8 → A 14 q = nst D K _ k q 6) ∧ ((A 11 13 = 0 ∧ pfl D K p g _ k = t) ∨ (A 11 13 = 1 ∧ pfl D K p g _ k = (if nst D K _ k p 8 = 1 then 1 else 0, g))) ∧ _
          rw [en, ep]
          exact ⟨j1, j2, j3, j4, j5, j6⟩))
        refine ⟨A2, ?_, by rw [r2]; congr 1; omega, r3⟩
        rw [← r1]
        conv => lhs; unfold fn_X7_takeNotes_10
        simp only [hsz, hget, s2, s3, f1, f2, mc_K, b2, mc_a11, a8, a9, h11, g1, c2, cd_F, cd_T, gd_T, bn_s, bn2_s, fn_X7_takeNotes_61, mc_s11]
      · have c2' : gI D 18 k ≤ K := by simpa using c2
        obtain ⟨A3, q1, q2, q3⟩ := takeNote_C (sc := sc) (R := R) d hk c2' lp hp h
        obtain ⟨A2, r1, r2, r3⟩ := ih (i + 1) m (up2 A3 11 11 (nI (i + 1))) (ks ++ [k]) e' (by omega) (by omega) up2_eq (hset _ _ q2)
        refine ⟨A2, ?_, by rw [r2]; congr 1; omega, r3⟩
        rw [← r1]
        conv => lhs; unfold fn_X7_takeNotes_10
        simp only [hsz, hget, s2, s3, f1, f2, mc_K, b2, mc_a11, a8, a9, q3, h11, g1, c2, q1, cd_F, cd_T, gd_T, bn_s, bn2_s, fn_X7_takeNotes_61, mc_s11]
    · have g1 : ¬ nI (nFr D k) ≤ nI day := by rw [n_le (by omega) (by omega)]; exact c1
      have eW : (k :: rest).takeWhile (fun k => decide (nFr D k ≤ day)) = [] := List.takeWhile_cons_of_neg (by simpa using c1)
      rw [eW, List.append_nil]
      refine ⟨A, ?_, h11, h⟩
      conv => lhs; unfold fn_X7_takeNotes_10
      simp only [hsz, hget, s2, f1, mc_K, b2, mc_a11, a9, g1, cd_F, gd_T, bn_s, bn2_s]
end WALK1
