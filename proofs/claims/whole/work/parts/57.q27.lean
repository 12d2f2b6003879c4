/-! tokens -/
def isB (x : Nat) : Bool := x == 10 || x == 32
def isL (x : Nat) : Bool := (decide (97 ≤ x) && decide (x ≤ 122)) || (decide (65 ≤ x) && decide (x ≤ 90))
def isD (x : Nat) : Bool := decide (48 ≤ x) && decide (x ≤ 57)
def isS (x : Nat) : Bool := x == 61 || x == 58 || x == 44 || x == 59 || x == 60 || x == 62 || x == 37
def rnf (P : Nat → Bool) (b : Nat → Nat) (N : Nat) : Nat → Nat → Nat
  | 0, p => p
  | f + 1, p => if p < N ∧ P (b p) = true then rnf P b N f (p + 1) else p
def rn (P : Nat → Bool) (b : Nat → Nat) (N p : Nat) : Nat := rnf P b N (N - p) p
section RUNS
variable {P : Nat → Bool} {b : Nat → Nat} {N : Nat}
theorem rn_y {p : Nat} (h : p < N) (hP : P (b p) = true) : rn P b N p = rn P b N (p + 1) := by
  unfold rn
  rw [show N - p = (N - (p + 1)) + 1 by omega]
  show (if p < N ∧ P (b p) = true then _ else _) = _
  rw [if_pos ⟨h, hP⟩]
theorem rn_n {p : Nat} (h : ¬ (p < N ∧ P (b p) = true)) : rn P b N p = p := by
  unfold rn
  cases N - p with
  | zero => rfl
  | succ f => show (if p < N ∧ P (b p) = true then _ else _) = _; rw [if_neg h]
theorem rn_b : ∀ (i p : Nat), N - p ≤ i → p ≤ N → p ≤ rn P b N p ∧ rn P b N p ≤ N ∧ (∀ j, p ≤ j → j < rn P b N p → P (b j) = true) ∧ ¬ (rn P b N p < N ∧ P (b (rn P b N p)) = true) := by
  intro i
  induction i with
  | zero =>
    intro p h1 h2
    rw [rn_n (by omega)]
    exact ⟨Nat.le_refl _, h2, fun j z1 z2 => by omega, by omega⟩
  | succ i ih =>
    intro p h1 h2
    by_cases c : p < N ∧ P (b p) = true
    · rw [rn_y c.1 c.2]
      obtain ⟨q1, q2, q3, q4⟩ := ih (p + 1) (by omega) (by omega)
      refine ⟨by omega, q2, fun j z1 z2 => ?_, q4⟩
      by_cases e : j = p
      · rw [e]; exact c.2
      · exact q3 j (by omega) z2
    · rw [rn_n c]
      exact ⟨Nat.le_refl _, h2, fun j z1 z2 => by omega, c⟩
end RUNS
/-- where a token ends -/
def te (b : Nat → Nat) (N st : Nat) : Nat := if st < N then (if isL (b st) then rn isL b N st else if isD (b st) then rn isD b N st else st + 1) else st
/-- a token's kind, the class's way -/
def kB (x : Nat) : Int32 := if isB x then 256 else if isL x then 257 else if isD x then 258 else nI x
def kd (b : Nat → Nat) (N st : Nat) : Int32 := if st < N then kB (b st) else 259
/-- words -/
def wlen (w : Nat) : Nat := hSlen.getD w 0
def wm (b : Nat → Nat) (w st en : Nat) : Prop := en = st + wlen w ∧ ∀ i, i < wlen w → nI (b (st + i)) = hCh w i
/-- a number's value, the reference's way -/
def rnum (b : Nat → Nat) : Nat → Nat → Nat → Nat
  | 0, _, v => v
  | f + 1, p, v => rnum b f (p + 1) (if 9999 < v then v else 10 * v + (b p - 48))
def cnum (b : Nat → Nat) : Nat → Nat → Nat → Nat
  | 0, _, v => v
  | f + 1, p, v => cnum b f (p + 1) (min 10000 (v * 10 + (b p - 48)))
theorem num_eq {b : Nat → Nat} : ∀ (f p v w : Nat), (∀ i, i < f → isD (b (p + i)) = true) → ((v ≤ 9999 ∧ w = v) ∨ (9999 < v ∧ v < 200000 ∧ w = 10000)) → (rnum b f p v ≤ 9999 ∧ cnum b f p w = rnum b f p v) ∨ (9999 < rnum b f p v ∧ rnum b f p v < 200000 ∧ cnum b f p w = 10000) := by
  intro f
  induction f with
  | zero => intro p v w _ h; exact h
  | succ f ih =>
    intro p v w hd h
    have h0 := hd 0 (by omega)
    unfold isD at h0
    rw [Nat.add_zero, Bool.and_eq_true, decide_eq_true_eq, decide_eq_true_eq] at h0
    show (rnum b f (p + 1) (if 9999 < v then v else 10 * v + (b p - 48)) ≤ 9999 ∧ cnum b f (p + 1) (min 10000 (w * 10 + (b p - 48))) = _) ∨ _
    refine ih (p + 1) _ _ (fun i hi => by have := hd (i + 1) (by omega); rw [show p + 1 + i = p + (i + 1) by omega]; exact this) ?_
    rcases h with ⟨h1, h2⟩ | ⟨h1, h2, h3⟩
    · rw [if_neg (by omega), h2]
      by_cases c : 10 * v + (b p - 48) ≤ 9999
      · exact Or.inl ⟨c, by omega⟩
      · exact Or.inr ⟨by omega, by omega, by omega⟩
    · rw [if_pos h1, h3]
      exact Or.inr ⟨h1, h2, by omega⟩
/-- what the reference knows of a token -/
def VT (b : Nat → Nat) (N st : Nat) (so va : Int32) : Prop :=
  (¬ st < N ∧ so = 5) ∨
  (st < N ∧ isL (b st) = true ∧ te b N st = st + 1 ∧ ((97 ≤ b st ∧ so = 1 ∧ va = nI (b st - 97)) ∨ (b st ≤ 70 ∧ so = 2 ∧ va = nI (b st - 65)) ∨ (70 < b st ∧ b st < 97 ∧ so = 6))) ∨
  (st < N ∧ isL (b st) = true ∧ te b N st ≠ st + 1 ∧ ((∃ w, w < 8 ∧ wm b w st (te b N st) ∧ so = 0 ∧ va = nI w) ∨ ((∀ w, w < 8 → ¬ wm b w st (te b N st)) ∧ so = 6))) ∨
  (st < N ∧ isD (b st) = true ∧ so = 3 ∧ va = nI (rnum b (te b N st - st) st 0)) ∨
  (st < N ∧ isL (b st) = false ∧ isD (b st) = false ∧ isB (b st) = false ∧ va = nI (b st) ∧ ((isS (b st) = true ∧ so = 4) ∨ (isS (b st) = false ∧ so = 6)))
def M2 (M M' : HS) : Prop := (∀ c, c ≠ 0 → gI M' c = gI M c) ∧ (∀ j, j < 18 ∨ 23 < j → gI M' 0 j = gI M 0 j) ∧ gJ M' = gJ M
theorem M2.rf {M : HS} : M2 M M := ⟨fun _ _ => rfl, fun _ _ => rfl, rfl⟩
theorem M2.tr {M M' M'' : HS} (h : M2 M M') (h2 : M2 M' M'') : M2 M M'' := ⟨fun c hc => (h2.1 c hc).trans (h.1 c hc), fun j hj => (h2.2.1 j hj).trans (h.2.1 j hj), h2.2.2.trans h.2.2⟩
theorem M2_s {M : HS} {j : Nat} {v : Int32} (h : 18 ≤ j ∧ j ≤ 23) : M2 M (sI M 0 j v) := ⟨fun c hc => sI_ne hc, fun i hi => sI_nk (by omega), rfl⟩
/-- the reference's text -/
def ML (M : HS) (b : Nat → Nat) (N : Nat) : Prop := gI M 0 17 = nI N ∧ N ≤ 2000 ∧ ∀ j, j < 2000 → gI M 1 j = nI (b j) ∧ b j < 256
theorem ML.keep {M M' : HS} {b : Nat → Nat} {N : Nat} (h : ML M b N) (h2 : M2 M M') : ML M' b N := ⟨(h2.2.1 17 (by omega)).trans h.1, h.2.1, by rw [h2.1 1 (by decide)]; exact h.2.2⟩
section LEXM
variable {b : Nat → Nat} {N : Nat}
theorem here_y {M : HS} {p : Nat} (h : ML M b N) (hp : gI M 0 18 = nI p) (l : p < N) : fn_X9_here M = some (nI (b p), M) := by
  have hN := h.2.1
  unfold fn_X9_here fn_X9_here_24
  rw [h.1, hp, cd_f (by rw [n_le (by omega) (by omega)]; omega), gd_t ((n_in (by omega)).mpr (by omega)), n_cl (by omega), (h.2.2 p (by omega)).1]
theorem here_n {M : HS} {p : Nat} (h : ML M b N) (hp : gI M 0 18 = nI p) (l : ¬ p < N) (lp : p ≤ 2000) : fn_X9_here M = some (-1, M) := by
  have hN := h.2.1
  unfold fn_X9_here fn_X9_here_24
  rw [h.1, hp, cd_t (by rw [n_le (by omega) (by omega)]; omega)]
theorem letter_M {x : Nat} (hx : x < 256) (S : HS) : fn_X9_isLetter (nI x) S = some (bI (isL x), S) := by
  have a1 : (nI x < 97) ↔ x < 97 := by rw [n_lit, n_lt (by omega) (by omega)]
  have a2 : (nI x ≤ 122) ↔ x ≤ 122 := by rw [n_lit, n_le (by omega) (by omega)]
  have a3 : (nI x < 65) ↔ x < 65 := by rw [n_lit, n_lt (by omega) (by omega)]
  have a4 : (90 < nI x) ↔ 90 < x := by rw [n_lit, n_lt (by omega) (by omega)]
  unfold fn_X9_isLetter fn_X9_isLetter_12 fn_X9_isLetter_24 fn_X9_isLetter_28 fn_X9_isLetter_29 isL bI
  simp only [a1, a2, a3, a4, or_true, true_or, gd_T]
  by_cases c1 : x < 97
  · rw [cd_t c1]
    by_cases c2 : x < 65
    · rw [cd_t c2, if_neg (by simp; omega)]
    · rw [cd_f c2]
      by_cases c3 : 90 < x
      · rw [cd_t c3, if_neg (by simp; omega)]
      · rw [cd_f c3, if_pos (by simp; omega)]
  · rw [cd_f c1]
    by_cases c2 : x ≤ 122
    · rw [cd_t c2, if_pos (by simp; omega)]
    · rw [cd_f c2, cd_f (by omega : ¬ x < 65), cd_t (by omega : 90 < x), if_neg (by simp; omega)]
theorem letter_n (S : HS) : fn_X9_isLetter (-1) S = some (0, S) := by
  unfold fn_X9_isLetter fn_X9_isLetter_12 fn_X9_isLetter_28 fn_X9_isLetter_29
  rw [cd_t (by decide), cd_t (by decide)]; exact gd0 S
theorem digit_M {x : Nat} (hx : x < 256) (S : HS) : fn_X9_isDigit (nI x) S = some (bI (isD x), S) := by
  have a1 : (nI x < 48) ↔ x < 48 := by rw [n_lit, n_lt (by omega) (by omega)]
  have a2 : (57 < nI x) ↔ 57 < x := by rw [n_lit, n_lt (by omega) (by omega)]
  unfold fn_X9_isDigit fn_X9_isDigit_16 fn_X9_isDigit_17 isD bI
  simp only [a1, a2, or_true, true_or, gd_T]
  by_cases c1 : x < 48
  · rw [cd_t c1, if_neg (by simp; omega)]
  · rw [cd_f c1]
    by_cases c2 : 57 < x
    · rw [cd_t c2, if_neg (by simp; omega)]
    · rw [cd_f c2, if_pos (by simp; omega)]
theorem digit_n (S : HS) : fn_X9_isDigit (-1) S = some (0, S) := by
  unfold fn_X9_isDigit fn_X9_isDigit_16 fn_X9_isDigit_17
  rw [cd_t (by decide)]; exact gd0 S
/-! letters in a row -/
theorem next_64 {c : Int32} : ∀ (i p m : Nat) (M : HS), N - p ≤ i → i < m → p ≤ N → ML M b N → gI M 0 18 = nI p → fn_X9_next_64 m c M = bn (fn_X9_word c (sI M 0 18 (nI (rn isL b N p)))) (fun S5 => some S5) := by
  intro i
  induction i with
  | zero =>
    intro p m M e hm hp hL h18
    obtain ⟨m, rfl⟩ : ∃ k, m = k + 1 := ⟨m - 1, by omega⟩
    have hN := hL.2.1
    conv => lhs; unfold fn_X9_next_64
    rw [here_n hL h18 (by omega) (by omega), bn2_s, letter_n, bn2_s, cd_t rfl, rn_n (by omega)]
    have : sI M 0 18 (nI p) = M := by
      refine Prod.ext ?_ rfl
      show up2 (gI M) 0 18 (nI p) = gI M
      rw [← h18, up2_id]
    rw [this]
    rfl
  | succ i ih =>
    intro p m M e hm hp hL h18
    obtain ⟨m, rfl⟩ : ∃ k, m = k + 1 := ⟨m - 1, by omega⟩
    have hN := hL.2.1
    have hsame : sI M 0 18 (nI p) = M := by
      refine Prod.ext ?_ rfl
      show up2 (gI M) 0 18 (nI p) = gI M
      rw [← h18, up2_id]
    by_cases c1 : p < N
    · have lb := (hL.2.2 p (by omega)).2
      by_cases c2 : isL (b p) = true
      · have := ih (p + 1) m (sI M 0 18 (nI (p + 1))) (by omega) (by omega) (by omega) (hL.keep (M2_s (by decide))) sI_eq
        rw [rn_y c1 c2]
        conv => lhs; unfold fn_X9_next_64
        rw [here_y hL h18 c1, bn2_s, letter_M lb, bn2_s, c2, show bI true = 1 from rfl, cd_f z10, bn_s, h18, show nI p + 1 = nI (p + 1) by rw [n_lit, n_add], this]
        congr 2
        refine Prod.ext ?_ rfl
        exact up2_up
      · have c2' : isL (b p) = false := by simpa using c2
        rw [rn_n (fun z => c2 z.2), hsame]
        conv => lhs; unfold fn_X9_next_64
        rw [here_y hL h18 c1, bn2_s, letter_M lb, bn2_s, c2', show bI false = 0 from rfl, cd_t rfl]
        rfl
    · rw [rn_n (fun z => c1 z.1), hsame]
      conv => lhs; unfold fn_X9_next_64
      rw [here_n hL h18 c1 (by omega), bn2_s, letter_n, bn2_s, cd_t rfl]
      rfl
/-! digits in a row -/
theorem next_112 : ∀ (i p m v : Nat) (M : HS), N - p ≤ i → i < m → p ≤ N → v < 200000 → ML M b N → gI M 0 18 = nI p → gI M 0 21 = nI v → fn_X9_next_112 m M = some (sI (sI M 0 21 (nI (rnum b (rn isD b N p - p) p v))) 0 18 (nI (rn isD b N p))) := by
  intro i
  induction i with
  | zero =>
    intro p m v M e hm hp lv hL h18 h21
    obtain ⟨m, rfl⟩ : ∃ k, m = k + 1 := ⟨m - 1, by omega⟩
    have hN := hL.2.1
    rw [rn_n (by omega), Nat.sub_self]
    conv => lhs; unfold fn_X9_next_112
    rw [here_n hL h18 (by omega) (by omega), bn2_s, digit_n, bn2_s, cd_t rfl]
    unfold fn_X9_next_238
    congr 1
    refine Prod.ext ?_ rfl
    show gI M = up2 (up2 (gI M) 0 21 (nI v)) 0 18 (nI p)
    rw [← h21, up2_id, ← h18, up2_id]
  | succ i ih =>
    intro p m v M e hm hp lv hL h18 h21
    obtain ⟨m, rfl⟩ : ∃ k, m = k + 1 := ⟨m - 1, by omega⟩
    have hN := hL.2.1
    have hsame : some M = some (sI (sI M 0 21 (nI (rnum b (p - p) p v))) 0 18 (nI p)) := by
      rw [Nat.sub_self]
      congr 1
      refine Prod.ext ?_ rfl
      show gI M = up2 (up2 (gI M) 0 21 (nI v)) 0 18 (nI p)
      rw [← h21, up2_id, ← h18, up2_id]
    by_cases c1 : p < N
    · have lb := (hL.2.2 p (by omega)).2
      by_cases c2 : isD (b p) = true
      · have hbd : 48 ≤ b p ∧ b p ≤ 57 := by
          unfold isD at c2
          rw [Bool.and_eq_true, decide_eq_true_eq, decide_eq_true_eq] at c2; exact c2
        have hr := (rn_b (P := isD) (b := b) (N := N) (N - (p + 1)) (p + 1) (Nat.le_refl _) (by omega)).1
        rw [rn_y c1 c2, show rn isD b N (p + 1) - p = (rn isD b N (p + 1) - (p + 1)) + 1 by omega]
        have hstep : ∀ v' : Nat, v' < 200000 → fn_X9_next_155 (fn_X9_next_112 m) (nI v') M = some (sI (sI M 0 21 (nI (rnum b (rn isD b N (p + 1) - (p + 1)) (p + 1) v'))) 0 18 (nI (rn isD b N (p + 1)))) := by
          intro v' lv'
          unfold fn_X9_next_155
          have h18' : gI (sI M 0 21 (nI v')) 0 18 = nI p := (sI_nk (by decide)).trans h18
          rw [bn_s, bn_s, h18', show nI p + 1 = nI (p + 1) by rw [n_lit, n_add], ih (p + 1) m v' _ (by omega) (by omega) (by omega) lv' ((hL.keep (M2_s (by decide))).keep (M2_s (by decide))) sI_eq ((sI_nk (by decide)).trans sI_eq)]
          congr 1
          refine Prod.ext ?_ rfl
          funext c j
          show up2 (up2 (up2 (up2 (gI M) 0 21 _) 0 18 _) 0 21 _) 0 18 _ c j = up2 (up2 (gI M) 0 21 _) 0 18 _ c j
          unfold up2
          by_cases q1 : c = 0 ∧ j = 18
          · rw [if_pos q1, if_pos q1]
          · by_cases q2 : c = 0 ∧ j = 21
            · obtain ⟨rfl, rfl⟩ := q2
              simp
            · simp only [q1, q2, if_false]
        conv => lhs; unfold fn_X9_next_112
        rw [here_y hL h18 c1, bn2_s, digit_M lb, bn2_s, c2, show bI true = 1 from rfl, cd_f z10, h21, here_y hL h18 c1, bn2_s]
        show _ = some (sI (sI M 0 21 (nI (rnum b (rn isD b N (p + 1) - (p + 1)) (p + 1) (if 9999 < v then v else 10 * v + (b p - 48))))) 0 18 (nI (rn isD b N (p + 1))))
        by_cases c3 : 9999 < v
        · rw [cd_f (by rw [n_lit, n_le (by omega) (by omega)]; omega), if_pos c3]
          exact hstep v lv
        · rw [cd_t (by rw [n_lit, n_le (by omega) (by omega)]; omega), if_neg c3, show 10 * nI v + nI (b p) - 48 = nI (10 * v + (b p - 48)) by
            rw [n_lit, n_mul, n_add, n_lit, n_sub (by omega)]; congr 1; omega]
          exact hstep _ (by omega)
      · have c2' : isD (b p) = false := by simpa using c2
        rw [rn_n (fun z => c2 z.2), ← hsame]
        conv => lhs; unfold fn_X9_next_112
        rw [here_y hL h18 c1, bn2_s, digit_M lb, bn2_s, c2', show bI false = 0 from rfl, cd_t rfl]
        rfl
    · rw [rn_n (fun z => c1 z.1), ← hsame]
      conv => lhs; unfold fn_X9_next_112
      rw [here_n hL h18 c1 (by omega), bn2_s, digit_n, bn2_s, cd_t rfl]
      rfl
end LEXM
