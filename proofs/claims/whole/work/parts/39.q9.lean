/-! working states of the class: cells 9 .. 14, the winners and the scale -/
def mc (S : HS) (A : AA) (R : Nat → Option Nat) (sc : Option Nat) : HS := (fun c j => if 9 ≤ c ∧ c < 15 then A c j else gI S c j, fun c j => if c = 8 then R j else if c = 12 ∧ j = 0 then sc else gR S c j, gJ S, gK S, gN S, gZ S)
section MC
variable {S : HS} {A : AA} {R : Nat → Option Nat} {sc : Option Nat}
theorem mc_a {c j : Nat} (h1 : 9 ≤ c) (h2 : c < 15) : gI (mc S A R sc) c j = A c j := if_pos ⟨h1, h2⟩
theorem mc_lo {c : Nat} (h : c < 9) : gI (mc S A R sc) c = gI S c := by funext j; exact if_neg (by omega)
theorem mc_hi {c : Nat} (h : 15 ≤ c) : gI (mc S A R sc) c = gI S c := by funext j; exact if_neg (by omega)
theorem mc_w {j : Nat} : gR (mc S A R sc) 8 j = R j := rfl
theorem mc_sc : gR (mc S A R sc) 12 0 = sc := rfl
theorem mc_r {c : Nat} (h1 : c ≠ 8) (h2 : c ≠ 12) : gR (mc S A R sc) c = gR S c := by
  funext j
  show (if c = 8 then R j else if c = 12 ∧ j = 0 then sc else gR S c j) = gR S c j
  rw [if_neg h1, if_neg (fun z => h2 z.1)]
theorem mc_K : gK (mc S A R sc) = gK S := rfl
theorem mc_N : gN (mc S A R sc) = gN S := rfl
theorem mc_Z : gZ (mc S A R sc) = gZ S := rfl
theorem mc_J : gJ (mc S A R sc) = gJ S := rfl
theorem mc_s {c k : Nat} {v : Int32} (h1 : 9 ≤ c) (h2 : c < 15) : sI (mc S A R sc) c k v = mc S (up2 A c k v) R sc := by
  refine Prod.ext ?_ rfl
  funext b j
  show (if b = c ∧ j = k then v else if 9 ≤ b ∧ b < 15 then A b j else gI S b j) = (if 9 ≤ b ∧ b < 15 then (if b = c ∧ j = k then v else A b j) else gI S b j)
  by_cases h : b = c ∧ j = k
  · rw [if_pos h, if_pos (by omega), if_pos h]
  · rw [if_neg h, if_neg h]
theorem mc_s9 {k : Nat} {v : Int32} : sI (mc S A R sc) 9 k v = mc S (up2 A 9 k v) R sc := mc_s (by decide) (by decide)
theorem mc_s10 {k : Nat} {v : Int32} : sI (mc S A R sc) 10 k v = mc S (up2 A 10 k v) R sc := mc_s (by decide) (by decide)
theorem mc_s11 {k : Nat} {v : Int32} : sI (mc S A R sc) 11 k v = mc S (up2 A 11 k v) R sc := mc_s (by decide) (by decide)
theorem mc_s12 {k : Nat} {v : Int32} : sI (mc S A R sc) 12 k v = mc S (up2 A 12 k v) R sc := mc_s (by decide) (by decide)
theorem mc_s13 {k : Nat} {v : Int32} : sI (mc S A R sc) 13 k v = mc S (up2 A 13 k v) R sc := mc_s (by decide) (by decide)
theorem mc_s14 {k : Nat} {v : Int32} : sI (mc S A R sc) 14 k v = mc S (up2 A 14 k v) R sc := mc_s (by decide) (by decide)
theorem mc_a9 {j : Nat} : gI (mc S A R sc) 9 j = A 9 j := rfl
theorem mc_a10 {j : Nat} : gI (mc S A R sc) 10 j = A 10 j := rfl
theorem mc_a11 {j : Nat} : gI (mc S A R sc) 11 j = A 11 j := rfl
theorem mc_a12 {j : Nat} : gI (mc S A R sc) 12 j = A 12 j := rfl
theorem mc_a13 {j : Nat} : gI (mc S A R sc) 13 j = A 13 j := rfl
theorem mc_a14 {j : Nat} : gI (mc S A R sc) 14 j = A 14 j := rfl
theorem mc_a0 {j : Nat} : gI (mc S A R sc) 0 j = gI S 0 j := rfl
theorem mc_a6 {j : Nat} : gI (mc S A R sc) 6 j = gI S 6 j := rfl
theorem mc_sw {k : Nat} {v : Option Nat} : sR (mc S A R sc) 8 k v = mc S A (up1 R k v) sc := by
  refine Prod.ext rfl (Prod.ext ?_ rfl)
  funext b j
  show (if b = 8 ∧ j = k then v else if b = 8 then R j else if b = 12 ∧ j = 0 then sc else gR S b j) = (if b = 8 then (if j = k then v else R j) else if b = 12 ∧ j = 0 then sc else gR S b j)
  by_cases h : b = 8
  · subst h; simp
  · simp [h]
theorem mc_ss {v : Option Nat} : sR (mc S A R sc) 12 0 v = mc S A R v := by
  refine Prod.ext rfl (Prod.ext ?_ rfl)
  funext b j
  show (if b = 12 ∧ j = 0 then v else if b = 8 then R j else if b = 12 ∧ j = 0 then sc else gR S b j) = (if b = 8 then R j else if b = 12 ∧ j = 0 then v else gR S b j)
  by_cases h : b = 12 ∧ j = 0
  · obtain ⟨rfl, rfl⟩ := h; simp
  · simp [h]
theorem mc_self : mc S (gI S) (gR S 8) (gR S 12 0) = S := by
  refine Prod.ext ?_ (Prod.ext ?_ rfl)
  · funext b j; show (if 9 ≤ b ∧ b < 15 then gI S b j else gI S b j) = gI S b j; simp
  · funext b j
    show (if b = 8 then gR S 8 j else if b = 12 ∧ j = 0 then gR S 12 0 else gR S b j) = gR S b j
    by_cases h : b = 8
    · subst h; simp
    · by_cases h2 : b = 12 ∧ j = 0
      · obtain ⟨rfl, rfl⟩ := h2; simp
      · simp [h, h2]
theorem mc_so {c k : Nat} {v : Int32} (h : c < 9 ∨ 15 ≤ c) : sI (mc S A R sc) c k v = mc (sI S c k v) A R sc := by
  refine Prod.ext ?_ rfl
  funext b j
  show (if b = c ∧ j = k then v else if 9 ≤ b ∧ b < 15 then A b j else gI S b j) = (if 9 ≤ b ∧ b < 15 then A b j else if b = c ∧ j = k then v else gI S b j)
  by_cases h1 : b = c ∧ j = k
  · rw [if_pos h1, if_neg (by omega), if_pos h1]
  · rw [if_neg h1, if_neg h1]
theorem mc_sJ {c k : Nat} {v : Int64} : sJ (mc S A R sc) c k v = mc (sJ S c k v) A R sc := rfl
theorem RCl_n : ∀ q ∈ RCl, q.1 ≠ 8 ∧ q.1 ≠ 12 := by decide
theorem mc_hC (h : hC S) : hC (mc S A R sc) := by
  refine ⟨h.1, h.2.1, h.2.2.1, fun q hq => ?_, h.2.2.2.2⟩
  rw [mc_r (RCl_n q hq).1 (RCl_n q hq).2]
  exact h.2.2.2.1 q hq
theorem mc_DRel {SM : HS} {LA NL : List Nat} {oA oL oN : Nat → Nat} (d : DRel S SM LA NL oA oL oN) : DRel (mc S A R sc) SM LA NL oA oL oN :=
  DRel_keep (S := S) (mc_hC d.1) rfl rfl rfl rfl rfl rfl rfl rfl rfl (fun q hq => mc_hi (by omega)) (fun q hq => mc_r (by omega) (by omega)) d
theorem mc_EC : EC S (mc S A R sc) := ⟨rfl, rfl, rfl, rfl, rfl, rfl, rfl, rfl, rfl, rfl, rfl⟩
theorem mc_RR {k : Nat} {SM : HS} (h : RR k S SM) : RR k (mc S A R sc) SM := by
  obtain ⟨e, LA, NL, oA, oL, oN, d⟩ := h
  exact ⟨mc_EC.ERel e, LA, NL, oA, oL, oN, mc_DRel d⟩
end MC
theorem JG_get {S : HS} {c M i : Nat} {xs : List Nat} (h : JG S c M xs) (hi : i < xs.length) (hM : M < 2147483648) : fl_get c (nI i) S = some (some (xs.getD i 0), S) := by
  obtain ⟨a, b, q⟩ := h
  rcases q with ⟨q1, q2⟩ | ⟨d, q1, q2, q3, q4, q5, q6, q7, q8⟩
  · rw [q2] at hi; simp at hi
  · unfold fl_get
    rw [gd_t a, b, gd_t ⟨n_ge0 (by omega), by rw [n_lt (by omega) (by omega)]; exact hi⟩, q1, bn_s, gd_t ⟨q3, (n_in (by omega)).mpr (by omega)⟩, n_cl (by omega), q8 i hi]
/-! the class's laws after some lines -/
def LC (D : HS) (oL : Nat → Nat) (day : Nat) (K : Int32) (qs : List (Nat × Nat)) (A : AA) (R : Nat → Option Nat) : Prop := ∀ k, k < 156 → R k = (wg D day K k qs).map (fun q => oL q.2) ∧ (∀ q, wg D day K k qs = some q → A 9 k = nI q.1) ∧ A 10 k = nI (ncnt D day K k qs)
theorem LC_step {D : HS} {oL : Nat → Nat} {day : Nat} {K : Int32} {qs : List (Nat × Nat)} {A B : AA} {R T : Nat → Option Nat} {a n k : Nat} (h : LC D oL day K qs A R) (qk : qK D n = k) (hv : gI D 2 a ≤ K ∧ qF D a ≤ day)
    (h0 : ∀ j, j ≠ k → T j = R j ∧ B 9 j = A 9 j ∧ B 10 j = A 10 j) (h1 : T k = some (oL n)) (h2 : B 9 k = nI a) (h3 : B 10 k = A 10 k + 1) : LC D oL day K (qs ++ [(a, n)]) B T := by
  intro j hj
  obtain ⟨i1, i2, i3⟩ := h j hj
  rw [wg_app, ncnt_app]
  by_cases e : j = k
  · subst e
    have ht : hit D day K j (a, n) := ⟨qk, hv.1, hv.2⟩
    rw [if_pos (hitb_t.mpr ht), h3, i3, wLast_t ht, h1, h2]
    exact ⟨rfl, fun q hq => by injection hq with hq; subst hq; rfl, by rw [n_lit, n_add]⟩
  · have hf : ¬ hit D day K j (a, n) := fun z => e (by rw [← z.1]; exact qk)
    obtain ⟨r1, r2, r3⟩ := h0 j e
    rw [wLast_f hf, if_neg (fun z => hf (hitb_t.mp z)), r1, r2, r3]
    exact ⟨i1, i2, i3⟩
section CLASS
variable {S D : HS} {LA NL : List Nat} {oA oL oN : Nat → Nat} {sc : Option Nat}
theorem L_key (d : DRel S D LA NL oA oL oN) {n : Nat} (hn : n < qL D (qA D)) (A : AA) (R : Nat → Option Nat) (sc : Option Nat) : fn_X2_key (oL n) (mc S A R sc) = some (nI (qK D n), mc S A R sc) := by
  obtain ⟨r1, r2, r3, r4, _⟩ := d.2.2.2.2.2.2.2.2.1 n hn
  unfold fn_X2_key
  rw [mc_K, gd_t r2, gd_t r2, mc_hi (by omega), r3, r4, n_lit, n_mul, n_add, show qK D n / 26 * 26 + qK D n % 26 = qK D n by omega]
theorem take_step (d : DRel S D LA NL oA oL oN) {day : Nat} {K : Int32} {qs : List (Nat × Nat)} {A : AA} {R : Nat → Option Nat} {a i m : Nat} (ha : a < qA D) (hi : i < qL D (a + 1) - qL D a) (hv : gI D 2 a ≤ K ∧ qF D a ≤ day) (h : LC D oL day K qs A R) :
    ∃ A' R', fn_X6_take_2 (m + 1) (oA a) (nI i) (mc S A R sc) = fn_X6_take_2 m (oA a) (nI (i + 1)) (mc S A' R' sc) ∧ LC D oL day K (qs ++ [(a, qL D a + i)]) A' R' ∧ ∀ c, c ≠ 9 → c ≠ 10 → A' c = A c := by
  have hd := d.2.2.1
  have la : qA D < 13 := (n_of_in hd.1).2
  have l4 : qL D (a + 1) < 481 := (n_of_in (hd.2.2.2.2.2.1 (a + 1) (by omega))).2
  have ln : qL D a + i < qL D (qA D) := qL_lt hd ha (by omega)
  obtain ⟨k, lk, ek⟩ := n_ex (hd.2.2.2.2.2.2.2.1 _ ln).1
  have qk : qK D (qL D a + i) = k := by unfold qK; rw [ek, n_cl (by omega)]
  obtain ⟨a1, a2, a3, a4, a5, l, b1, b2, b3, b4, e, b5, b6, b7, b8⟩ := d.2.2.2.2.2.2.2.1 a ha
  obtain ⟨c1, c2, c3, c4⟩ := b8 (qL D a + i) (by omega) (by omega)
  rw [show qL D a + i - qL D a = i by omega] at c4
  have o2 : gK S (oL (qL D a + i)) = 3 := (d.2.2.2.2.2.2.2.2.1 _ ln).2.1
  have s1 : ∀ A R sc, gR (mc S A R sc) (oA a) 3 = some l := fun A R sc => by rw [mc_r (by omega) (by omega)]; exact b1
  have s2 : ∀ A R sc, fl_size l (mc S A R sc) = some (nI (qL D (a + 1) - qL D a), mc S A R sc) := fun A R sc => by rw [fz (by exact b3), mc_hi (by omega), b4]
  have s3 : ∀ A R sc, fl_get l (nI i) (mc S A R sc) = some (some (oL (qL D a + i)), mc S A R sc) := fun A R sc => by
    unfold fl_get
    rw [mc_K, mc_N, gd_t b3, mc_hi (by omega), b4, gd_t ⟨n_ge0 (by omega), by rw [n_lt (by omega) (by omega)]; exact hi⟩, mc_r (by omega) (by omega), c1, bn_s, gd_t ⟨c2, (n_in (by omega)).mpr (by omega)⟩, n_cl (by omega), mc_r (by omega) (by omega), c4]
  have s4 := L_key d ln
  rw [qk] at s4
  have s5 : ∀ A R sc, gI (mc S A R sc) (oA a) 0 = nI a := fun A R sc => by rw [mc_hi (by omega)]; exact a3
  have f1 : ¬ nI (qL D (a + 1) - qL D a) ≤ nI i := by rw [n_le (by omega) (by omega)]; omega
  have f2 : ¬ nI k < 0 := n_ge0 (by omega)
  have f3 : ¬ (156 : Int32) ≤ nI k := by rw [n_lit, n_le (by omega) (by omega)]; omega
  have f4 : vp_in (nI k) 156 := (n_in (by omega)).mpr lk
  have f5 : (nI k).toNatClampNeg = k := n_cl (by omega)
  have f6 : nI i + 1 = nI (i + 1) := by rw [n_lit, n_add]
  refine ⟨up2 (up2 A 9 k (nI a)) 10 k (A 10 k + 1), up1 R k (some (oL (qL D a + i))), ?_, LC_step h qk hv (fun j hj => ?_) up1_eq ?_ up2_eq, fun c h1 h2 => ?_⟩
  · conv => lhs; unfold fn_X6_take_2
    simp only [mc_K, a2, b3, o2, s1, s2, s3, s4, s5, f1, f2, f3, f4, f5, f6, gd_T, cd_F, bn_s, bn2_s, mc_sw, mc_s9, mc_s10, mc_a10, up2_ne (show 10 ≠ 9 by decide), fn_X6_take_74]
  · rw [up1_ne hj, up2_nk hj, up2_nk hj, up2_nk hj, up2_nk hj]; exact ⟨rfl, rfl, rfl⟩
  · rw [up2_ne (by decide), up2_eq]
  · rw [up2_ne h2, up2_ne h1]
theorem take_2 (d : DRel S D LA NL oA oL oN) {day : Nat} {K : Int32} {qs : List (Nat × Nat)} {a : Nat} (ha : a < qA D) (hv : gI D 2 a ≤ K ∧ qF D a ≤ day) : ∀ (i j m : Nat) (A : AA) (R : Nat → Option Nat), j + i = qL D (a + 1) - qL D a → i < m → LC D oL day K (qs ++ (List.range j).map (fun i => (a, qL D a + i))) A R →
    ∃ A' R', fn_X6_take_2 m (oA a) (nI j) (mc S A R sc) = some (mc S A' R' sc) ∧ LC D oL day K (qs ++ lns D a) A' R' ∧ ∀ c, c ≠ 9 → c ≠ 10 → A' c = A c := by
  intro i
  induction i with
  | zero =>
    intro j m A R e hm h
    obtain ⟨m, rfl⟩ : ∃ k, m = k + 1 := ⟨m - 1, by omega⟩
    have e : j = qL D (a + 1) - qL D a := by omega
    subst e
    obtain ⟨a1, a2, a3, a4, a5, l, b1, b2, b3, b4, e, b5, b6, b7, b8⟩ := d.2.2.2.2.2.2.2.1 a ha
    refine ⟨A, R, ?_, h, fun c _ _ => rfl⟩
    conv => lhs; unfold fn_X6_take_2
    rw [mc_K, gd_t a2, mc_r (by omega) (by omega), b1, bn_s, gd_t b3, fz (by exact b3), bn2_s, mc_hi (by omega), b4, cd_t (Int32.le_refl _)]
  | succ i ih =>
    intro j m A R e hm h
    obtain ⟨m, rfl⟩ : ∃ k, m = k + 1 := ⟨m - 1, by omega⟩
    obtain ⟨A1, R1, q1, q2, q3⟩ := take_step (sc := sc) (m := m) d ha (by omega : j < qL D (a + 1) - qL D a) hv h
    obtain ⟨A2, R2, r1, r2, r3⟩ := ih (j + 1) m A1 R1 (by omega) (by omega) (by
      rw [List.range_succ, List.map_append, ← List.append_assoc]
      exact q2)
    exact ⟨A2, R2, q1.trans r1, r2, fun c h1 h2 => (r3 c h1 h2).trans (q3 c h1 h2)⟩
theorem take_C (d : DRel S D LA NL oA oL oN) {day : Nat} {K : Int32} {qs : List (Nat × Nat)} {a : Nat} {A : AA} {R : Nat → Option Nat} (ha : a < qA D) (hv : gI D 2 a ≤ K ∧ qF D a ≤ day) (h : LC D oL day K qs A R) :
    ∃ A' R', fn_X6_take (oA a) (mc S A R sc) = some (mc S A' R' sc) ∧ LC D oL day K (qs ++ lns D a) A' R' ∧ ∀ c, c ≠ 9 → c ≠ 10 → A' c = A c := by
  have hd := d.2.2.1
  have := (hd.2.2.2.2.2.2.1 a ha).2
  exact take_2 d ha hv (qL D (a + 1) - qL D a) 0 hFuel A R (by omega) (by unfold hFuel; omega) (by simpa using h)
theorem fill_C {c N : Nat} {v : Int32} (h1 : 9 ≤ c) (h2 : c < 15) (hk : gK S c = 21) (hn : gN S c = N) (hN : N < 5000) : ∀ (i k m : Nat) (A : AA) (R : Nat → Option Nat), k + i = N → i < m → ∃ A', fn_J7_fill_53178_5 m c v (nI k) (nI N) (mc S A R sc) = some (mc S A' R sc) ∧ (∀ j, k ≤ j → j < N → A' c j = v) ∧ (∀ j, j < k → A' c j = A c j) ∧ ∀ b, b ≠ c → A' b = A b := by
  intro i
  induction i with
  | zero =>
    intro k m A R e hm
    obtain ⟨m, rfl⟩ : ∃ k, m = k + 1 := ⟨m - 1, by omega⟩
    have e : k = N := by omega
    subst e
    refine ⟨A, ?_, fun j h1 h2 => by omega, fun j _ => rfl, fun b _ => rfl⟩
    conv => lhs; unfold fn_J7_fill_53178_5
    exact cd_t (Int32.le_refl _)
  | succ i ih =>
    intro k m A R e hm
    obtain ⟨m, rfl⟩ : ∃ k, m = k + 1 := ⟨m - 1, by omega⟩
    obtain ⟨A', q1, q2, q3, q4⟩ := ih (k + 1) m (up2 A c k v) R (by omega) (by omega)
    refine ⟨A', ?_, fun j g1 g2 => ?_, fun j g1 => ?_, fun b hb => ?_⟩
    · conv => lhs; unfold fn_J7_fill_53178_5
      have f1 : ¬ nI N ≤ nI k := by rw [n_le (by omega) (by omega)]; omega
      have f2 : vp_in (nI k) N := (n_in (by omega)).mpr (by omega)
      have f3 : (nI k).toNatClampNeg = k := n_cl (by omega)
      have f4 : nI k + 1 = nI (k + 1) := by rw [n_lit, n_add]
      simp only [f1, f2, f3, f4, mc_K, mc_N, hk, hn, cd_F, gd_T, bn_s, mc_s h1 h2]
      exact q1
    · by_cases ej : j = k
      · subst ej; rw [q3 j (by omega), up2_eq]
      · exact q2 j (by omega) g2
    · rw [q3 j (by omega), up2_nk (by omega)]
    · rw [q4 b hb, up2_ne hb]
theorem fill_all {c N : Nat} {v : Int32} {A : AA} {R : Nat → Option Nat} (h1 : 9 ≤ c) (h2 : c < 15) (hk : gK S c = 21) (hn : gN S c = N) (hN : N < 5000) : ∃ A', fn_J7_fill_53178 c v (mc S A R sc) = some (mc S A' R sc) ∧ (∀ j, j < N → A' c j = v) ∧ ∀ b, b ≠ c → A' b = A b := by
  obtain ⟨A', q1, q2, _, q4⟩ := fill_C (sc := sc) (v := v) h1 h2 hk hn hN N 0 hFuel A R (by omega) (by unfold hFuel; omega)
  refine ⟨A', ?_, fun j hj => q2 j (by omega) hj, q4⟩
  unfold fn_J7_fill_53178
  rw [mc_K, gd_t hk, bn_s, mc_N, hn]
  exact q1
theorem clear_2 (hc : hC S) : ∀ (i k m : Nat) (A : AA) (R : Nat → Option Nat), k + i = 156 → i < m → ∃ A' R', fn_X6_clear_2 m (nI k) (mc S A R sc) = some (mc S A' R' sc) ∧ (∀ j, k ≤ j → j < 156 → R' j = none) ∧ (∀ j, j < k → R' j = R j) ∧ (∀ j, j < 156 → A' 10 j = 0) ∧ ∀ b, b ≠ 10 → A' b = A b := by
  intro i
  induction i with
  | zero =>
    intro k m A R e hm
    obtain ⟨m, rfl⟩ : ∃ k, m = k + 1 := ⟨m - 1, by omega⟩
    have e : k = 156 := by omega
    subst e
    obtain ⟨A', q1, q2, q3⟩ := fill_all (sc := sc) (v := 0) (A := A) (R := R) (c := 10) (by decide) (by decide) (hCk hc 10 (by decide) rfl) (hCn hc 10 (by decide) rfl) (by decide)
    refine ⟨A', R, ?_, fun j h1 h2 => by omega, fun j _ => rfl, q2, q3⟩
    conv => lhs; unfold fn_X6_clear_2
    rw [cd_t (Int32.le_refl _), q1]
    rfl
  | succ i ih =>
    intro k m A R e hm
    obtain ⟨m, rfl⟩ : ∃ k, m = k + 1 := ⟨m - 1, by omega⟩
    obtain ⟨A', R', q1, q2, q3, q4, q5⟩ := ih (k + 1) m A (up1 R k none) (by omega) (by omega)
    refine ⟨A', R', ?_, fun j g1 g2 => ?_, fun j g1 => ?_, q4, q5⟩
    · conv => lhs; unfold fn_X6_clear_2
      have f1 : ¬ nI 156 ≤ nI k := by rw [n_le (by omega) (by omega)]; omega
      have f2 : vp_in (nI k) 156 := (n_in (by omega)).mpr (by omega)
      have f3 : (nI k).toNatClampNeg = k := n_cl (by omega)
      have f4 : nI k + 1 = nI (k + 1) := by rw [n_lit, n_add]
      simp only [f1, f2, f3, f4, cd_F, gd_T, bn_s, mc_sw]
      exact q1
    · by_cases ej : j = k
      · subst ej; rw [q3 j (by omega), up1_eq]
      · exact q2 j (by omega) g2
    · rw [q3 j (by omega), up1_ne (by omega)]
theorem clear_C (hc : hC S) {A : AA} {R : Nat → Option Nat} (D : HS) (oL : Nat → Nat) (day : Nat) (K : Int32) : ∃ A' R', fn_X6_clear (mc S A R sc) = some (mc S A' R' sc) ∧ LC D oL day K [] A' R' ∧ ∀ b, b ≠ 10 → A' b = A b := by
  obtain ⟨A', R', q1, q2, _, q4, q5⟩ := clear_2 (sc := sc) hc 156 0 hFuel A R rfl (by decide)
  refine ⟨A', R', q1, fun k hk => ?_, q5⟩
  rw [q2 k (by omega) hk, q4 k hk]
  exact ⟨rfl, fun q hq => (by cases hq), rfl⟩
end CLASS
/-! rows of answers -/
theorem put_in {S : HS} {r d m w N b : Nat} {v : Int64} (hk : gK S r = 6) (hm : gI S r 2 = nI m) (hw : gI S r 0 = nI w) (hd : gR S r 1 = some d) (hkd : gK S d = 22) (hn : gN S d = N) (hb : b < w) (hN : (m + 1) * w ≤ N) (hl : N < 2147483648) : fn_X5_put r (nI b) v S = some (sJ S d (m * w + b) v) := by
  have h1 : m * w + w ≤ N := by rw [Nat.succ_mul] at hN; exact hN
  have f0 : nI m * nI w + nI b = nI (m * w + b) := by rw [n_mul, n_add]
  have f1 : ¬ nI w ≤ nI b := by rw [n_le (by omega) (by omega)]; omega
  have f2 : ¬ nI N ≤ nI (m * w + b) := by rw [n_le (by omega) (by omega)]; omega
  have f3 : vp_in (nI (m * w + b)) N := (n_in (by omega)).mpr (by omega)
  have f4 : (nI (m * w + b)).toNatClampNeg = m * w + b := n_cl (by omega)
  unfold fn_X5_put fn_X5_put_39
  simp only [hk, hm, hw, hd, hkd, hn, f0, f1, f2, f3, f4, gd_T, cd_F, bn_s]
theorem put_out {S : HS} {r w b : Nat} {v : Int64} (hk : gK S r = 6) (hw : gI S r 0 = nI w) (hb : w ≤ b) (hl : b < 2147483648) : fn_X5_put r (nI b) v S = some S := by
  have f1 : nI w ≤ nI b := by rw [n_le (by omega) (by omega)]; omega
  unfold fn_X5_put fn_X5_put_39
  simp only [hk, hw, f1, gd_T, cd_T, bn_s]
theorem add_4 {S : HS} {r d m N : Nat} {a b c e : Int64} (hk : gK S r = 6) (hm : gI S r 2 = nI m) (hw : gI S r 0 = 4) (hd : gR S r 1 = some d) (hkd : gK S d = 22) (hn : gN S d = N) (hN : (m + 1) * 4 ≤ N) (hl : N < 2147483648) : fn_X5_add r a b c e S = some (sI (sJ (sJ (sJ (sJ S d (m * 4) a) d (m * 4 + 1) b) d (m * 4 + 2) c) d (m * 4 + 3) e) r 2 (nI (m + 1))) := by
  have hw : gI S r 0 = nI 4 := hw
  have f0 : nI (m + 1) * nI 4 = nI ((m + 1) * 4) := by rw [n_mul]
  have f1 : nI ((m + 1) * 4) ≤ nI N := by rw [n_le (by omega) (by omega)]; exact hN
  have f2 : nI m + 1 = nI (m + 1) := by rw [n_lit, n_add]
  have p0 : ∀ v, fn_X5_put r 0 v S = some (sJ S d (m * 4) v) := fun v => put_in (b := 0) hk hm hw hd hkd hn (by decide) hN hl
  have p1 : ∀ v, fn_X5_put r 1 v (sJ S d (m * 4) a) = some (sJ (sJ S d (m * 4) a) d (m * 4 + 1) v) := fun v => put_in (S := sJ S d (m * 4) a) (b := 1) hk hm hw hd hkd hn (by decide) hN hl
  have p2 : ∀ v, fn_X5_put r 2 v (sJ (sJ S d (m * 4) a) d (m * 4 + 1) b) = some (sJ (sJ (sJ S d (m * 4) a) d (m * 4 + 1) b) d (m * 4 + 2) v) := fun v => put_in (S := sJ (sJ S d (m * 4) a) d (m * 4 + 1) b) (b := 2) hk hm hw hd hkd hn (by decide) hN hl
  have p3 : ∀ v, fn_X5_put r 3 v (sJ (sJ (sJ S d (m * 4) a) d (m * 4 + 1) b) d (m * 4 + 2) c) = some (sJ (sJ (sJ (sJ S d (m * 4) a) d (m * 4 + 1) b) d (m * 4 + 2) c) d (m * 4 + 3) v) := fun v => put_in (S := sJ (sJ (sJ S d (m * 4) a) d (m * 4 + 1) b) d (m * 4 + 2) c) (b := 3) hk hm hw hd hkd hn (by decide) hN hl
  unfold fn_X5_add
  simp only [gK_sJ, gI_sJ, hk, hm, hw, hd, hkd, hn, f0, f1, f2, p0, p1, p2, p3, gd_T, cd_T, bn_s]
theorem add_3 {S : HS} {r d m N : Nat} {a b c e : Int64} (hk : gK S r = 6) (hm : gI S r 2 = nI m) (hw : gI S r 0 = 3) (hd : gR S r 1 = some d) (hkd : gK S d = 22) (hn : gN S d = N) (hN : (m + 1) * 3 ≤ N) (hl : N < 2147483648) : fn_X5_add r a b c e S = some (sI (sJ (sJ (sJ S d (m * 3) a) d (m * 3 + 1) b) d (m * 3 + 2) c) r 2 (nI (m + 1))) := by
  have hw : gI S r 0 = nI 3 := hw
  have f0 : nI (m + 1) * nI 3 = nI ((m + 1) * 3) := by rw [n_mul]
  have f1 : nI ((m + 1) * 3) ≤ nI N := by rw [n_le (by omega) (by omega)]; exact hN
  have f2 : nI m + 1 = nI (m + 1) := by rw [n_lit, n_add]
  have p0 : ∀ v, fn_X5_put r 0 v S = some (sJ S d (m * 3) v) := fun v => put_in (b := 0) hk hm hw hd hkd hn (by decide) hN hl
  have p1 : ∀ v, fn_X5_put r 1 v (sJ S d (m * 3) a) = some (sJ (sJ S d (m * 3) a) d (m * 3 + 1) v) := fun v => put_in (S := sJ S d (m * 3) a) (b := 1) hk hm hw hd hkd hn (by decide) hN hl
  have p2 : ∀ v, fn_X5_put r 2 v (sJ (sJ S d (m * 3) a) d (m * 3 + 1) b) = some (sJ (sJ (sJ S d (m * 3) a) d (m * 3 + 1) b) d (m * 3 + 2) v) := fun v => put_in (S := sJ (sJ S d (m * 3) a) d (m * 3 + 1) b) (b := 2) hk hm hw hd hkd hn (by decide) hN hl
  have p3 : ∀ v, fn_X5_put r 3 v (sJ (sJ (sJ S d (m * 3) a) d (m * 3 + 1) b) d (m * 3 + 2) c) = some (sJ (sJ (sJ S d (m * 3) a) d (m * 3 + 1) b) d (m * 3 + 2) c) := fun v => put_out (S := sJ (sJ (sJ S d (m * 3) a) d (m * 3 + 1) b) d (m * 3 + 2) c) (b := 3) hk hw (by decide) (by decide)
  unfold fn_X5_add
  simp only [gK_sJ, gI_sJ, hk, hm, hw, hd, hkd, hn, f0, f1, f2, p0, p1, p2, p3, gd_T, cd_T, bn_s]
