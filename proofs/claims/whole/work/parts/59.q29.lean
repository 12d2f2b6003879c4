/-! the class's tokens -/
def C2 (S S' : HS) : Prop := (∀ c, c ≠ 2 → gI S' c = gI S c) ∧ (∀ j, j < 3 ∨ 7 < j → gI S' 2 j = gI S 2 j) ∧ gR S' = gR S ∧ gJ S' = gJ S ∧ gK S' = gK S ∧ gN S' = gN S ∧ gZ S' = gZ S
theorem C2.rf {S : HS} : C2 S S := ⟨fun _ _ => rfl, fun _ _ => rfl, rfl, rfl, rfl, rfl, rfl⟩
theorem C2.tr {S S' S'' : HS} (h : C2 S S') (h2 : C2 S' S'') : C2 S S'' := ⟨fun c hc => (h2.1 c hc).trans (h.1 c hc), fun j hj => (h2.2.1 j hj).trans (h.2.1 j hj), h2.2.2.1.trans h.2.2.1, h2.2.2.2.1.trans h.2.2.2.1, h2.2.2.2.2.1.trans h.2.2.2.2.1, h2.2.2.2.2.2.1.trans h.2.2.2.2.2.1, h2.2.2.2.2.2.2.trans h.2.2.2.2.2.2⟩
theorem C2_s {S : HS} {j : Nat} {v : Int32} (h : 3 ≤ j ∧ j ≤ 7) : C2 S (sI S 2 j v) := ⟨fun c hc => sI_ne hc, fun i hi => sI_nk (by omega), rfl, rfl, rfl, rfl, rfl⟩
def CL (S : HS) (b : Nat → Nat) (N : Nat) : Prop := gI S 2 2 = nI N ∧ N ≤ 2000 ∧ ∀ j, j < 2000 → gI S 1 j &&& 255 = nI (b j) ∧ b j < 256
theorem CL.keep {S S' : HS} {b : Nat → Nat} {N : Nat} (h : CL S b N) (h2 : C2 S S') : CL S' b N := ⟨(h2.2.1 2 (by omega)).trans h.1, h.2.1, by rw [h2.1 1 (by decide)]; exact h.2.2⟩
section LEXC
variable {b : Nat → Nat} {N : Nat}
theorem byte_y {S : HS} {p : Nat} (h : CL S b N) (l : p < N) : fn_X4_byteAt (nI p) S = some (nI (b p), S) := by
  have hN := h.2.1
  unfold fn_X4_byteAt fn_X4_byteAt_35
  rw [h.1, cd_f (n_ge0 (by omega)), cd_f (by rw [n_le (by omega) (by omega)]; omega), cd_f (by rw [n_le (by omega) (by omega)]; omega), gd_t ((n_in (by omega)).mpr (by omega)), n_cl (by omega), (h.2.2 p (by omega)).1]
theorem byte_n {S : HS} {p : Nat} (h : CL S b N) (l : ¬ p < N) (lp : p < 100000) : fn_X4_byteAt (nI p) S = some (0, S) := by
  have hN := h.2.1
  unfold fn_X4_byteAt fn_X4_byteAt_34 fn_X4_byteAt_35
  rw [h.1, cd_f (n_ge0 (by omega)), cd_t (by rw [n_le (by omega) (by omega)]; omega)]
theorem kind_C {S : HS} {p : Nat} (h : CL S b N) (lp : p ≤ N) : fn_X4_kindAt (nI p) S = some (kd b N p, S) := by
  have hN := h.2.1
  unfold fn_X4_kindAt kd
  rw [h.1]
  by_cases c : p < N
  · have lb := (h.2.2 p (by omega)).2
    rw [cd_t (by rw [n_lt (by omega) (by omega)]; exact c), byte_y h c, bn2_s, if_pos c]
    have a : ∀ n : Nat, n < 256 → ((nI (b p) = nI n) ↔ b p = n) := fun n hn => n_eq (by omega) (by omega)
    have a1 : (nI (b p) < 97) ↔ b p < 97 := by rw [n_lit, n_lt (by omega) (by omega)]
    have a2 : (nI (b p) ≤ 122) ↔ b p ≤ 122 := by rw [n_lit, n_le (by omega) (by omega)]
    have a3 : (nI (b p) < 65) ↔ b p < 65 := by rw [n_lit, n_lt (by omega) (by omega)]
    have a4 : (90 < nI (b p)) ↔ 90 < b p := by rw [n_lit, n_lt (by omega) (by omega)]
    have a5 : (nI (b p) < 48) ↔ b p < 48 := by rw [n_lit, n_lt (by omega) (by omega)]
    have a6 : (57 < nI (b p)) ↔ 57 < b p := by rw [n_lit, n_lt (by omega) (by omega)]
    unfold fn_X4_kindAt_46 fn_X4_kindAt_62 fn_X4_kindAt_80 fn_X4_kindAt_81 fn_X4_kindAt_58 fn_X4_kindAt_30
    simp only [a1, a2, a3, a4, a5, a6]
    unfold kB
    by_cases d1 : b p = 10
    · rw [cd_t (show nI (b p) = 10 from (a 10 (by decide)).mpr d1), if_pos (by rw [d1]; decide)]
    rw [cd_f (show ¬ nI (b p) = 10 from fun z => d1 ((a 10 (by decide)).mp z))]
    by_cases d2 : b p = 32
    · rw [cd_t (show nI (b p) = 32 from (a 32 (by decide)).mpr d2), if_pos (by rw [d2]; decide)]
    rw [cd_f (show ¬ nI (b p) = 32 from fun z => d2 ((a 32 (by decide)).mp z)), if_neg (by unfold isB; simp [d1, d2])]
    by_cases c1 : b p < 97
    · rw [cd_t c1]
      by_cases c2 : b p < 65
      · rw [cd_t c2, if_neg (by unfold isL; simp; omega)]
        by_cases c3 : b p < 48
        · rw [cd_t c3, if_neg (by unfold isD; simp; omega)]
        · rw [cd_f c3]
          by_cases c4 : 57 < b p
          · rw [cd_t c4, if_neg (by unfold isD; simp; omega)]
          · rw [cd_f c4, if_pos (by unfold isD; simp; omega)]
      · rw [cd_f c2]
        by_cases c3 : 90 < b p
        · rw [cd_t c3, cd_f (by omega : ¬ b p < 48), cd_t (by omega : 57 < b p), if_neg (by unfold isL; simp; omega), if_neg (by unfold isD; simp; omega)]
        · rw [cd_f c3, if_pos (by unfold isL; simp; omega)]
    · rw [cd_f c1]
      by_cases c2 : b p ≤ 122
      · rw [cd_t c2, if_pos (by unfold isL; simp; omega)]
      · rw [cd_f c2, cd_f (by omega : ¬ b p < 65), cd_t (by omega : 90 < b p), cd_f (by omega : ¬ b p < 48), cd_t (by omega : 57 < b p), if_neg (by unfold isL; simp; omega), if_neg (by unfold isD; simp; omega)]
  · rw [cd_f (by rw [n_lt (by omega) (by omega)]; exact c), if_neg c]
theorem kB_256 {x : Nat} (h : x < 256) : (kB x = 256 ↔ isB x = true) ∧ (kB x = 257 ↔ (isB x = false ∧ isL x = true)) ∧ (kB x = 258 ↔ (isB x = false ∧ isL x = false ∧ isD x = true)) ∧ kB x ≠ 259 := by
  have e : ∀ n : Nat, 255 < n → n < 1000 → ¬ nI x = nI n := fun n h1 h2 => by rw [n_eq (by omega) (by omega)]; omega
  unfold kB
  cases isB x <;> cases isL x <;> cases isD x <;> simp <;> first | exact ⟨e 256 (by decide) (by decide), e 257 (by decide) (by decide), e 258 (by decide) (by decide), e 259 (by decide) (by decide)⟩ | decide
theorem isL_B {x : Nat} (h : isL x = true) : isB x = false := by
  unfold isL at h; unfold isB
  simp at h ⊢; omega
theorem isD_B {x : Nat} (h : isD x = true) : isB x = false ∧ isL x = false := by
  unfold isD at h; unfold isB isL
  simp at h ⊢; omega
theorem adv_64 {k : Int32} {P : Nat → Bool} (hk : (k = 257 ∧ P = isL) ∨ (k = 258 ∧ P = isD)) : ∀ (i p m : Nat) (S : HS), N - p ≤ i → i < m → p ≤ N → CL S b N → gI S 2 5 = k → fn_X4_advance_64 m (nI p) S = some (sI S 2 4 (nI (rn P b N p))) := by
  have hkp : ∀ (p : Nat) (S : HS), p < N → CL S b N → (kd b N p = k ↔ P (b p) = true) := by
    intro p S hp hL
    have hN := hL.2.1
    obtain ⟨k1, k2, k3, k4⟩ := kB_256 (hL.2.2 p (by omega)).2
    unfold kd
    rw [if_pos hp]
    rcases hk with ⟨rfl, rfl⟩ | ⟨rfl, rfl⟩
    · exact ⟨fun z => (k2.mp z).2, fun z => k2.mpr ⟨isL_B z, z⟩⟩
    · exact ⟨fun z => (k3.mp z).2.2, fun z => k3.mpr ⟨(isD_B z).1, (isD_B z).2, z⟩⟩
  intro i
  induction i with
  | zero =>
    intro p m S e hm hp hL h5
    obtain ⟨m, rfl⟩ : ∃ k, m = k + 1 := ⟨m - 1, by omega⟩
    have hN := hL.2.1
    rw [rn_n (by omega)]
    conv => lhs; unfold fn_X4_advance_64
    rw [hL.1, cd_t (by rw [n_le (by omega) (by omega)]; omega)]
    rfl
  | succ i ih =>
    intro p m S e hm hp hL h5
    obtain ⟨m, rfl⟩ : ∃ k, m = k + 1 := ⟨m - 1, by omega⟩
    have hN := hL.2.1
    by_cases c1 : p < N
    · have hiff := hkp p S c1 hL
      by_cases c2 : P (b p) = true
      · rw [rn_y c1 c2]
        conv => lhs; unfold fn_X4_advance_64
        rw [hL.1, cd_f (by rw [n_le (by omega) (by omega)]; omega), kind_C hL (by omega), bn2_s, h5, cd_t (hiff.mpr c2), bn_s, show nI p + 1 = nI (p + 1) by rw [n_lit, n_add]]
        exact ih (p + 1) m S (by omega) (by omega) (by omega) hL h5
      · rw [rn_n (fun z => c2 z.2)]
        conv => lhs; unfold fn_X4_advance_64
        rw [hL.1, cd_f (by rw [n_le (by omega) (by omega)]; omega), kind_C hL (by omega), bn2_s, h5, cd_f (fun z => c2 (hiff.mp z))]
        rfl
    · rw [rn_n (fun z => c1 z.1)]
      conv => lhs; unfold fn_X4_advance_64
      rw [hL.1, cd_t (by rw [n_le (by omega) (by omega)]; omega)]
      rfl
theorem adv_5 : ∀ (i p m : Nat) (S : HS), N - p ≤ i → i < m → p ≤ N → CL S b N → fn_X4_advance_5 m (nI p) S = fn_X4_advance_30 (nI (rn isB b N p)) S := by
  intro i
  induction i with
  | zero =>
    intro p m S e hm hp hL
    obtain ⟨m, rfl⟩ : ∃ k, m = k + 1 := ⟨m - 1, by omega⟩
    have hN := hL.2.1
    rw [rn_n (by omega)]
    conv => lhs; unfold fn_X4_advance_5
    rw [hL.1, cd_t (by rw [n_le (by omega) (by omega)]; omega)]
  | succ i ih =>
    intro p m S e hm hp hL
    obtain ⟨m, rfl⟩ : ∃ k, m = k + 1 := ⟨m - 1, by omega⟩
    have hN := hL.2.1
    by_cases c1 : p < N
    · have hk := (kB_256 (hL.2.2 p (by omega)).2).1
      have hkd : kd b N p = kB (b p) := by unfold kd; rw [if_pos c1]
      by_cases c2 : isB (b p) = true
      · rw [rn_y c1 c2]
        conv => lhs; unfold fn_X4_advance_5
        rw [hL.1, cd_f (by rw [n_le (by omega) (by omega)]; omega), kind_C hL (by omega), bn2_s, hkd, cd_t (hk.mpr c2), bn_s, show nI p + 1 = nI (p + 1) by rw [n_lit, n_add]]
        exact ih (p + 1) m S (by omega) (by omega) (by omega) hL
      · rw [rn_n (fun z => c2 z.2)]
        conv => lhs; unfold fn_X4_advance_5
        rw [hL.1, cd_f (by rw [n_le (by omega) (by omega)]; omega), kind_C hL (by omega), bn2_s, hkd, cd_f (fun z => c2 (hk.mp z))]
    · rw [rn_n (fun z => c1 z.1)]
      conv => lhs; unfold fn_X4_advance_5
      rw [hL.1, cd_t (by rw [n_le (by omega) (by omega)]; omega)]
/-- the class's token -/
def CT (S : HS) (b : Nat → Nat) (N st : Nat) : Prop := CL S b N ∧ st ≤ N ∧ ¬ (st < N ∧ isB (b st) = true) ∧ gI S 2 3 = nI st ∧ gI S 2 4 = nI (te b N st) ∧ gI S 2 5 = kd b N st
theorem te_b {st : Nat} (h : st ≤ N) : st ≤ te b N st ∧ te b N st ≤ N := by
  unfold te
  by_cases c : st < N
  · rw [if_pos c]
    split
    · exact ⟨(rn_b _ _ (Nat.le_refl _) h).1, (rn_b _ _ (Nat.le_refl _) h).2.1⟩
    · split
      · exact ⟨(rn_b _ _ (Nat.le_refl _) h).1, (rn_b _ _ (Nat.le_refl _) h).2.1⟩
      · omega
  · rw [if_neg c]; omega
theorem adv_C {S : HS} {p : Nat} (hL : CL S b N) (hp : p ≤ N) (h4 : gI S 2 4 = nI p) : ∃ S', fn_X4_advance S = some S' ∧ C2 S S' ∧ gI S' 2 6 = gI S 2 6 ∧ gI S' 2 7 = gI S 2 7 ∧ CT S' b N (rn isB b N p) := by
  have hN := hL.2.1
  unfold fn_X4_advance
  rw [h4, bn_s, adv_5 (N - p) p hFuel S (Nat.le_refl _) (by unfold hFuel; omega) hp hL]
  have hr := rn_b (P := isB) (b := b) (N := N) (N - p) p (Nat.le_refl _) hp
  generalize rn isB b N p = st at *
  obtain ⟨r1, r2, r3, r4⟩ := hr
  unfold fn_X4_advance_30
  have hL1 : CL (sI S 2 3 (nI st)) b N := hL.keep (C2_s (by decide))
  have hL2 : CL (sI (sI S 2 3 (nI st)) 2 5 (kd b N st)) b N := hL1.keep (C2_s (by decide))
  rw [bn_s, kind_C hL1 r2, bn2_s, bn_s, sI_eq]
  have hfin : ∀ en, en = te b N st → ∃ S', some (sI (sI (sI S 2 3 (nI st)) 2 5 (kd b N st)) 2 4 (nI en)) = some S' ∧ C2 S S' ∧ gI S' 2 6 = gI S 2 6 ∧ gI S' 2 7 = gI S 2 7 ∧ CT S' b N st := by
    intro en he
    refine ⟨_, rfl, ((C2_s (by decide)).tr (C2_s (by decide))).tr (C2_s (by decide)), rfl, rfl, hL2.keep (C2_s (by decide)), r2, r4, ?_, ?_, ?_⟩
    · rw [sI_nk (by decide), sI_nk (by decide), sI_eq]
    · rw [sI_eq, he]
    · rw [sI_nk (by decide), sI_eq]
  by_cases c : st < N
  · obtain ⟨k1, k2, k3, k4⟩ := kB_256 (hL.2.2 st (by omega)).2
    have hkd : kd b N st = kB (b st) := by unfold kd; rw [if_pos c]
    have hnb : isB (b st) = false := by
      cases h : isB (b st)
      · rfl
      · exact absurd ⟨c, h⟩ r4
    by_cases c1 : isL (b st) = true
    · have hk : kd b N st = 257 := hkd.trans (k2.mpr ⟨hnb, c1⟩)
      rw [cd_t hk, adv_64 (P := isL) (Or.inl ⟨rfl, rfl⟩) (N - st) st hFuel _ (Nat.le_refl _) (by unfold hFuel; omega) r2 hL2 (by rw [sI_eq, hk])]
      exact hfin _ (by unfold te; rw [if_pos c, if_pos c1])
    · have c1' : isL (b st) = false := by simpa using c1
      rw [cd_f (by rw [hkd]; exact fun z => c1 (k2.mp z).2)]
      by_cases c2 : isD (b st) = true
      · have hk : kd b N st = 258 := hkd.trans (k3.mpr ⟨hnb, c1', c2⟩)
        rw [cd_t hk, adv_64 (P := isD) (Or.inr ⟨rfl, rfl⟩) (N - st) st hFuel _ (Nat.le_refl _) (by unfold hFuel; omega) r2 hL2 (by rw [sI_eq, hk])]
        exact hfin _ (by unfold te; rw [if_pos c, if_neg c1, if_pos c2])
      · rw [cd_f (by rw [hkd]; exact fun z => c2 (k3.mp z).2.2), hL2.1, cd_f (by rw [n_le (by omega) (by omega)]; omega), bn_s, show nI st + 1 = nI (st + 1) by rw [n_lit, n_add]]
        exact hfin _ (by unfold te; rw [if_pos c, if_neg c1, if_neg c2])
  · have hk : kd b N st = 259 := by unfold kd; rw [if_neg c]
    rw [hk, cd_f (by decide), cd_f (by decide), ← hk, hL2.1, cd_t (by rw [n_le (by omega) (by omega)]; omega)]
    exact hfin _ (by unfold te; rw [if_neg c])
/-! numbers and words -/
theorem num_7 {en : Nat} (hen : en ≤ N) : ∀ (i p m v : Nat) (S : HS), en - p = i → p ≤ en → i < m → v ≤ 10000 → CL S b N → gI S 2 4 = nI en → (∀ j, p ≤ j → j < en → isD (b j) = true) → fn_X4_numberOfToken_7 m (nI v) (nI p) S = some (nI (cnum b i p v), S) := by
  intro i
  induction i with
  | zero =>
    intro p m v S e hp hm lv hL h4 hd
    obtain ⟨m, rfl⟩ : ∃ k, m = k + 1 := ⟨m - 1, by omega⟩
    have hN := hL.2.1
    conv => lhs; unfold fn_X4_numberOfToken_7
    rw [h4, cd_t (by rw [n_le (by omega) (by omega)]; omega)]
    rfl
  | succ i ih =>
    intro p m v S e hp hm lv hL h4 hd
    obtain ⟨m, rfl⟩ : ∃ k, m = k + 1 := ⟨m - 1, by omega⟩
    have hN := hL.2.1
    have h0 := hd p (Nat.le_refl _) (by omega)
    unfold isD at h0
    rw [Bool.and_eq_true, decide_eq_true_eq, decide_eq_true_eq] at h0
    conv => lhs; unfold fn_X4_numberOfToken_7
    rw [h4, cd_f (by rw [n_le (by omega) (by omega)]; omega), byte_y hL (by omega), bn2_s, bn_s, bn_s]
    have t : jmin 10000 (nI v * 10 + nI (b p) - 48) = nI (min 10000 (v * 10 + (b p - 48))) := by
      rw [show nI v * 10 + nI (b p) - 48 = nI (v * 10 + (b p - 48)) by rw [n_lit, n_mul, n_add, n_lit, n_sub (by omega)]; congr 1; omega, show (10000 : Int32) = nI 10000 from rfl, j_min (by omega) (by omega)]
    rw [t, show nI p + 1 = nI (p + 1) by rw [n_lit, n_add]]
    exact ih (p + 1) m _ S (by omega) (by omega) (by omega) (by omega) hL h4 (fun j h1 h2 => hd j (by omega) h2)
theorem tok_D {S : HS} {st : Nat} (h : CT S b N st) (hk : gI S 2 5 = 258) : st < N ∧ isD (b st) = true ∧ (∀ j, st ≤ j → j < te b N st → isD (b j) = true) := by
  obtain ⟨hL, h1, h2, h3, h4, h5⟩ := h
  have hN := hL.2.1
  rw [h5] at hk
  unfold kd at hk
  by_cases c : st < N
  · rw [if_pos c] at hk
    have h6 := ((kB_256 (hL.2.2 st (by omega)).2).2.2.1.mp hk)
    refine ⟨c, h6.2.2, fun j z1 z2 => ?_⟩
    unfold te at z2
    rw [if_pos c, h6.2.1, h6.2.2] at z2
    exact (rn_b (P := isD) _ st (Nat.le_refl _) h1).2.2.1 j z1 z2
  · rw [if_neg c] at hk; exact absurd hk (by decide)
theorem num_C {S : HS} {st : Nat} (h : CT S b N st) (hk : gI S 2 5 = 258) : fn_X4_numberOfToken S = some (nI (cnum b (te b N st - st) st 0), S) := by
  have hd := tok_D h hk
  obtain ⟨hL, h1, h2, h3, h4, h5⟩ := h
  have hN := hL.2.1
  have ht := te_b (b := b) h1
  unfold fn_X4_numberOfToken
  rw [h3, bn_s]
  exact num_7 ht.2 (te b N st - st) st hFuel 0 S rfl ht.1 (by unfold hFuel; omega) (by decide) hL h4 hd.2.2
theorem tok_30 {S : HS} {st w : Nat} (h : CT S b N st) (hw : w < 8) (hlen : te b N st = st + wlen w) : ∀ (i j m : Nat), j + i = wlen w → i < m → (∀ q, q < j → nI (b (st + q)) = hCh w q) → (wm b w st (te b N st) ∧ fn_X4_tokenIs_30 m w (nI j) S = some (1, S)) ∨ (¬ wm b w st (te b N st) ∧ fn_X4_tokenIs_30 m w (nI j) S = some (0, S)) := by
  obtain ⟨hL, h1, h2, h3, h4, h5⟩ := h
  have hN := hL.2.1
  have ht := te_b (b := b) h1
  have hwl := w_ch w hw
  intro i
  induction i with
  | zero =>
    intro j m e hm hq
    obtain ⟨m, rfl⟩ : ∃ k, m = k + 1 := ⟨m - 1, by omega⟩
    refine Or.inl ⟨⟨hlen, fun q hq' => hq q (by omega)⟩, ?_⟩
    conv => lhs; unfold fn_X4_tokenIs_30
    rw [gd_t (by omega), cd_t (by show nI (wlen w) ≤ nI j; rw [n_le (by omega) (by omega)]; omega)]
  | succ i ih =>
    intro j m e hm hq
    obtain ⟨m, rfl⟩ : ∃ k, m = k + 1 := ⟨m - 1, by omega⟩
    have hu : fn_X4_tokenIs_30 (m + 1) w (nI j) S = cd (nI (b (st + j)) = hCh w j) (fn_X4_tokenIs_30 m w (nI (j + 1)) S) (some (0, S)) := by
      conv => lhs; unfold fn_X4_tokenIs_30
      rw [gd_t (by omega), cd_f (by show ¬ nI (wlen w) ≤ nI j; rw [n_le (by omega) (by omega)]; omega), h3, n_add, byte_y hL (by omega), bn2_s, gd_t (by omega), gd_t (show vp_in (nI j) (hSlen.getD w 0) from (n_in (by omega)).mpr (show j < wlen w by omega)), n_cl (by omega), bn_s, show nI j + 1 = nI (j + 1) by rw [n_lit, n_add]]
    rw [hu]
    by_cases c : nI (b (st + j)) = hCh w j
    · rw [cd_t c]
      exact ih (j + 1) m (by omega) (by omega) (fun q hq' => by
        by_cases eq : q = j
        · rw [eq]; exact c
        · exact hq q (by omega))
    · rw [cd_f c]
      exact Or.inr ⟨fun z => c (z.2 j (by omega)), rfl⟩
/-- is the token this word -/
theorem tok_C {S : HS} {st w : Nat} (h : CT S b N st) (hw : w < 8) : (kd b N st = 257 ∧ wm b w st (te b N st) ∧ fn_X4_tokenIs w S = some (1, S)) ∨ (¬ (kd b N st = 257 ∧ wm b w st (te b N st)) ∧ fn_X4_tokenIs w S = some (0, S)) := by
  have h0 := h
  obtain ⟨hL, h1, h2, h3, h4, h5⟩ := h
  have hN := hL.2.1
  have ht := te_b (b := b) h1
  have hwl := w_ch w hw
  unfold fn_X4_tokenIs fn_X4_tokenIs_26
  rw [h5, h4, h3, n_sub ht.1]
  by_cases c : kd b N st = 257
  · rw [cd_t c, gd_t (by omega)]
    by_cases c2 : te b N st - st = wlen w
    · rw [cd_t (show nI (te b N st - st) = nI (hSlen.getD w 0) by rw [c2]; rfl)]
      rcases tok_30 h0 hw (by omega) (wlen w) 0 hFuel (by omega) (by unfold hFuel; omega) (fun q hq => absurd hq (Nat.not_lt_zero _)) with ⟨q1, q2⟩ | ⟨q1, q2⟩
      · exact Or.inl ⟨c, q1, q2⟩
      · exact Or.inr ⟨fun z => q1 z.2, q2⟩
    · rw [cd_f (show ¬ nI (te b N st - st) = nI (hSlen.getD w 0) from fun z => c2 ((n_eq (by omega) (show wlen w < 2147483648 by omega)).mp z))]
      exact Or.inr ⟨fun z => c2 (by have := z.2.1; omega), rfl⟩
  · rw [cd_f c]
    exact Or.inr ⟨fun z => c z.1, rfl⟩
theorem spell_C {w : Nat} (hw : w < 7) (S : HS) : fn_X4_spelling (nI w) S = some (w, S) := by
  have a : ∀ n : Nat, n < 7 → ((nI w = nI n) ↔ w = n) := fun n hn => n_eq (by omega) (by omega)
  unfold fn_X4_spelling
  rcases (by omega : w = 0 ∨ w = 1 ∨ w = 2 ∨ w = 3 ∨ w = 4 ∨ w = 5 ∨ w = 6) with rfl | rfl | rfl | rfl | rfl | rfl | rfl
  · exact cd_t rfl
  · exact (cd_f (by decide)).trans (cd_t rfl)
  · exact (cd_f (by decide)).trans ((cd_f (by decide)).trans (cd_t rfl))
  · exact (cd_f (by decide)).trans ((cd_f (by decide)).trans ((cd_f (by decide)).trans (cd_t rfl)))
  · exact (cd_f (by decide)).trans ((cd_f (by decide)).trans ((cd_f (by decide)).trans ((cd_f (by decide)).trans (cd_t rfl))))
  · exact (cd_f (by decide)).trans ((cd_f (by decide)).trans ((cd_f (by decide)).trans ((cd_f (by decide)).trans ((cd_f (by decide)).trans (cd_t rfl)))))
  · exact (cd_f (by decide)).trans ((cd_f (by decide)).trans ((cd_f (by decide)).trans ((cd_f (by decide)).trans ((cd_f (by decide)).trans (cd_f (by decide))))))
theorem wordOf_2 {S : HS} {st : Nat} (h : CT S b N st) : ∀ (i w m : Nat), w + i = 7 → i < m → (∃ v, w ≤ v ∧ v < 7 ∧ kd b N st = 257 ∧ wm b v st (te b N st) ∧ fn_X4_wordOfToken_2 m (nI w) S = some (nI v, S)) ∨ ((∀ v, w ≤ v → v < 7 → ¬ (kd b N st = 257 ∧ wm b v st (te b N st))) ∧ fn_X4_wordOfToken_2 m (nI w) S = some (-1, S)) := by
  intro i
  induction i with
  | zero =>
    intro w m e hm
    obtain ⟨m, rfl⟩ : ∃ k, m = k + 1 := ⟨m - 1, by omega⟩
    have e : w = 7 := by omega
    subst e
    refine Or.inr ⟨fun v h1 h2 => by omega, ?_⟩
    conv => lhs; unfold fn_X4_wordOfToken_2
    exact cd_t (by decide)
  | succ i ih =>
    intro w m e hm
    obtain ⟨m, rfl⟩ : ∃ k, m = k + 1 := ⟨m - 1, by omega⟩
    have hu : ∀ r, fn_X4_tokenIs w S = some (r, S) → fn_X4_wordOfToken_2 (m + 1) (nI w) S = cd (r = 0) (fn_X4_wordOfToken_2 m (nI (w + 1)) S) (some (nI w, S)) := fun r hr => by
      conv => lhs; unfold fn_X4_wordOfToken_2
      rw [cd_f (by rw [n_lit, n_lt (by omega) (by omega)]; omega), spell_C (by omega), bn2_s, hr, bn2_s, bn_s, show nI w + 1 = nI (w + 1) by rw [n_lit, n_add]]
    rcases tok_C h (by omega : w < 8) with ⟨q1, q2, q3⟩ | ⟨q1, q3⟩
    · rw [hu 1 q3, cd_f z10]
      exact Or.inl ⟨w, Nat.le_refl _, by omega, q1, q2, rfl⟩
    · rw [hu 0 q3, cd_t rfl]
      rcases ih (w + 1) m (by omega) (by omega) with ⟨v, z1, z2, z3, z4, z5⟩ | ⟨z1, z2⟩
      · exact Or.inl ⟨v, by omega, z2, z3, z4, z5⟩
      · refine Or.inr ⟨fun v h1 h2 => ?_, z2⟩
        by_cases ev : v = w
        · rw [ev]; exact q1
        · exact z1 v (by omega) h2
theorem wordOf_C {S : HS} {st : Nat} (h : CT S b N st) : (∃ v, v < 7 ∧ kd b N st = 257 ∧ wm b v st (te b N st) ∧ fn_X4_wordOfToken S = some (nI v, S)) ∨ ((∀ v, v < 7 → ¬ (kd b N st = 257 ∧ wm b v st (te b N st))) ∧ fn_X4_wordOfToken S = some (-1, S)) := by
  rcases wordOf_2 h 7 0 hFuel rfl (by decide) with ⟨v, _, z2, z3, z4, z5⟩ | ⟨z1, z2⟩
  · exact Or.inl ⟨v, z2, z3, z4, z5⟩
  · exact Or.inr ⟨fun v hv => z1 v (Nat.zero_le _) hv, z2⟩
end LEXC
