/-! sorted lists -/
def cLt (f : Nat → Nat) (l : List Nat) (d : Nat) : Nat := (l.filter (fun k => decide (f k < d))).length
theorem srt {f : Nat → Nat} {d : Nat} : ∀ l : List Nat, l.Pairwise (fun a b => f a ≤ f b) → l.drop (cLt f l d) = l.filter (fun k => decide (d ≤ f k)) ∧ l.take (cLt f l d) = l.filter (fun k => decide (f k < d)) := by
  intro l
  induction l with
  | nil => intro _; exact ⟨rfl, rfl⟩
  | cons a l ih =>
    intro h
    rw [List.pairwise_cons] at h
    by_cases c : f a < d
    · have e : cLt f (a :: l) d = cLt f l d + 1 := by unfold cLt; rw [List.filter_cons_of_pos (by simpa using c)]; rfl
      obtain ⟨i1, i2⟩ := ih h.2
      rw [e, List.drop_succ_cons, List.take_succ_cons, i1, i2, List.filter_cons_of_neg (by simpa using c), List.filter_cons_of_pos (by simpa using c)]
      exact ⟨rfl, rfl⟩
    · have h1 : ∀ b ∈ a :: l, d ≤ f b := by
        intro b hb
        rcases List.mem_cons.mp hb with rfl | hb
        · omega
        · have := h.1 b hb; omega
      have e1 : (a :: l).filter (fun k => decide (f k < d)) = [] := List.filter_eq_nil_iff.mpr (fun b hb => by have := h1 b hb; simp; omega)
      have e2 : (a :: l).filter (fun k => decide (d ≤ f k)) = a :: l := List.filter_eq_self.mpr (fun b hb => by simpa using h1 b hb)
      unfold cLt
      rw [e1, e2]
      exact ⟨rfl, rfl⟩
theorem srt_tw {f : Nat → Nat} {d : Nat} : ∀ l : List Nat, l.Pairwise (fun a b => f a ≤ f b) → (∀ b ∈ l, d ≤ f b) → l.takeWhile (fun k => decide (f k ≤ d)) = l.filter (fun k => f k == d) := by
  intro l
  induction l with
  | nil => intro _ _; rfl
  | cons a l ih =>
    intro h hb
    rw [List.pairwise_cons] at h
    have ha := hb a (by simp)
    by_cases c : f a = d
    · rw [List.takeWhile_cons_of_pos (by simp; omega), List.filter_cons_of_pos (by simpa using c), ih h.2 (fun b q => hb b (by simp [q]))]
    · rw [List.takeWhile_cons_of_neg (by simp; omega)]
      symm
      apply List.filter_eq_nil_iff.mpr
      intro b q
      rcases List.mem_cons.mp q with rfl | q
      · simpa using c
      · have := h.1 b q
        simp; omega
theorem flt_len {f : Nat → Nat} {d : Nat} : ∀ l : List Nat, cLt f l (d + 1) = cLt f l d + (l.filter (fun k => f k == d)).length := by
  intro l
  unfold cLt
  induction l with
  | nil => rfl
  | cons a l ih =>
    by_cases c1 : f a < d
    · rw [List.filter_cons_of_pos (by simp; omega), List.filter_cons_of_pos (by simpa using c1), List.filter_cons_of_neg (by simp; omega), List.length_cons, List.length_cons, ih]; omega
    · by_cases c2 : f a = d
      · rw [List.filter_cons_of_pos (by simp; omega), List.filter_cons_of_neg (by simp; omega), List.filter_cons_of_pos (by simpa using c2), List.length_cons, List.length_cons, ih]; omega
      · rw [List.filter_cons_of_neg (by simp; omega), List.filter_cons_of_neg (by simp; omega), List.filter_cons_of_neg (by simpa using c2), ih]
/-- what a walk takes on a day: all that begin on it -/
theorem srt_day {f : Nat → Nat} {d : Nat} {l : List Nat} (h : l.Pairwise (fun a b => f a ≤ f b)) : (l.drop (cLt f l d)).takeWhile (fun k => decide (f k ≤ d)) = l.filter (fun k => f k == d) ∧ cLt f l d + ((l.drop (cLt f l d)).takeWhile (fun k => decide (f k ≤ d))).length = cLt f l (d + 1) := by
  have h1 : (l.drop (cLt f l d)).takeWhile (fun k => decide (f k ≤ d)) = l.filter (fun k => f k == d) := by
    rw [(srt l h).1, srt_tw _ (h.filter _) (fun b hb => by have := (List.mem_filter.mp hb).2; simpa using this), List.filter_filter]
    apply List.filter_congr
    intro a _
    by_cases c : f a = d
    · simp [c]
    · simp [c]
  exact ⟨h1, by rw [h1, flt_len]⟩
theorem cLt_same {f : Nat → Nat} {d d' : Nat} {l : List Nat} (h : ∀ a ∈ l, f a < d ↔ f a < d') : cLt f l d = cLt f l d' := by
  have e : l.filter (fun k => decide (f k < d)) = l.filter (fun k => decide (f k < d')) := List.filter_congr (fun a ha => decide_eq_decide.mpr (h a ha))
  unfold cLt
  rw [e]
theorem drop_c {xs : List Nat} {i a : Nat} {rest : List Nat} (h : xs.drop i = a :: rest) : i < xs.length ∧ xs.getD i 0 = a ∧ xs.drop (i + 1) = rest := by
  have h1 : i < xs.length := by
    have := congrArg List.length h
    rw [List.length_drop, List.length_cons] at this
    omega
  have h2 := List.drop_eq_getElem_cons h1
  rw [h] at h2
  injection h2 with e1 e2
  exact ⟨h1, by rw [List.getD_eq_getElem?_getD, List.getElem?_eq_getElem h1, e1]; rfl, e2.symm⟩
theorem drop_n {xs : List Nat} {i : Nat} (h : xs.drop i = []) : xs.length ≤ i := by
  have := congrArg List.length h
  rw [List.length_drop] at this
  simp at this
  omega
/-! days that are alike -/
def QA (D : HS) (d n : Nat) : Prop := ∀ a, a < qA D → qF D a ≤ d ∨ d + n ≤ qF D a
def QN (D : HS) (d n : Nat) : Prop := ∀ k, k < qN D → nFr D k ≤ d ∨ d + n ≤ nFr D k
theorem dn_nil {D : HS} {d n i : Nat} (h : QN D d n) (hi : i + 1 < n) : dn D (d + i + 1) = [] := by
  unfold dn
  apply List.filter_eq_nil_iff.mpr
  intro k hk
  have := h k (List.mem_range.mp hk)
  simp
  omega
theorem q_vv {D : HS} {K : Int32} {d n : Nat} (h : QN D d n) : ∀ i, i < n → vv D K (d + i) = vv D K d := by
  intro i
  induction i with
  | zero => intro _; rfl
  | succ i ih =>
    intro hi
    show (dn D (d + i + 1)).foldl (nst D K) (vv D K (d + i)) = _
    rw [dn_nil h hi, ih (by omega)]
    rfl
theorem q_wl {D : HS} (hd : DOK D) {K : Int32} {d n : Nat} (h : QA D d n) : ∀ i, i < n → wl D K (d + i) = wl D K d := by
  intro i hi
  refine wl_same hd (by omega) (fun b hb _ h1 h2 => ?_)
  have := h b hb
  omega
theorem q_svg {D : HS} {K : Int32} {d n : Nat} (h : QN D d n) (i : Nat) (hi : i < n) (who : Nat) : svg D K (d + i) who = svg D K d who := by
  unfold svg
  rw [q_vv h i hi]
theorem q_gap {D : HS} (hd : DOK D) {K : Int32} {d n : Nat} (h : QA D d n) (i : Nat) (hi : i < n) : gap D K (d + i) = gap D K d := by
  unfold gap
  rw [q_wl hd h i hi]
theorem q_sa {D : HS} (hd : DOK D) {K : Int32} {d n who : Nat} (hA : QA D d n) (hN : QN D d n) : ∀ i, i < n → sa D K who (d + i + 1) = if svg D K d who then ((sa D K who d).1 + (i + 1), 0) else (if gap D K d < (sa D K who d).2 + (i + 1) then 0 else (sa D K who d).1, (sa D K who d).2 + (i + 1)) := by
  intro i
  induction i with
  | zero => intro _; exact sa_s
  | succ i ih =>
    intro hi
    have e : d + (i + 1) = d + i + 1 := rfl
    rw [sa_s, q_svg hN _ hi, q_gap hd hA _ hi, e, ih (by omega)]
    by_cases c : svg D K d who = true
    · rw [if_pos c, if_pos c, if_pos c]
      refine Prod.ext ?_ rfl
      show (sa D K who d).1 + (i + 1) + 1 = _
      omega
    · rw [if_neg c, if_neg c, if_neg c]
      refine Prod.ext ?_ ?_
      · show (if gap D K d < (sa D K who d).2 + (i + 1) + 1 then 0 else (if gap D K d < (sa D K who d).2 + (i + 1) then 0 else (sa D K who d).1)) = (if gap D K d < (sa D K who d).2 + (i + 1 + 1) then 0 else (sa D K who d).1)
        by_cases c2 : gap D K d < (sa D K who d).2 + (i + 1) + 1
        · rw [if_pos c2, if_pos (by omega)]
        · rw [if_neg c2, if_neg (by omega), if_neg (by omega)]
      · show (sa D K who d).2 + (i + 1) + 1 = (sa D K who d).2 + (i + 1 + 1)
        omega
theorem fnx_id {hd am : Int32} {t : Int32 × Int32} : fnx hd am ((fnx hd am t).1, (fnx hd am t).2.1) = fnx hd am t := by
  unfold fnx
  by_cases c : hd = 0
  · simp only [c, if_true]
  · simp only [c, if_false]
    by_cases c2 : t.1 ≠ 0 ∧ am < t.2
    · rw [if_pos c2]
      show (if t.1 ≠ 0 ∧ am < t.2 then _ else _) = _
      rw [if_pos c2]
    · rw [if_neg c2]
      show (if (0 : Int32) ≠ 0 ∧ am < t.2 then _ else _) = _
      rw [if_neg (fun z => z.1 rfl)]
theorem fnx_0 {am am' : Int32} {t : Int32 × Int32} : fnx 0 am t = fnx 0 am' t := by unfold fnx; rw [if_pos rfl, if_pos rfl]
theorem held_svg {D : HS} {K : Int32} {d p : Nat} (hp : p < qP D) (h : vv D K d p 6 = 1) : svg D K d (per D p) = true := by
  unfold svg
  rw [List.any_eq_true]
  exact ⟨p, List.mem_range.mpr hp, by simp [h]⟩
/-- the step stays for so many days of service -/
def QS (D : HS) (K : Int32) (p d n : Nat) : Prop := ∀ i, i < n → dSt D (wl D K d) (vv D K d p) ((sa D K (per D p) d).1 + i) = dSt D (wl D K d) (vv D K d p) (sa D K (per D p) d).1
theorem q_flo {D : HS} (hd : DOK D) {K : Int32} {d n p : Nat} (hp : p < qP D) (hA : QA D d n) (hN : QN D d n) (hS : QS D K p d n) : ∀ i, i < n → flo D K p (d + i) = flo D K p d := by
  intro i
  induction i with
  | zero => intro _; rfl
  | succ i ih =>
    intro hi
    have e1 : flo D K p (d + (i + 1)) = fnx (vv D K (d + i + 1) p 6) (aOf D K (d + i + 1) p) ((flo D K p (d + i)).1, (flo D K p (d + i)).2.1) := by
      show fnx (vv D K (d + i + 1) p 6) (aOf D K (d + i + 1) p) ((dn D (d + i + 1)).foldl (pfl D K p (flo D K p (d + i)).2.2) ((flo D K p (d + i)).1, (flo D K p (d + i)).2.1)) = _
      rw [dn_nil hN hi]
      rfl
    have e2 : vv D K (d + i + 1) = vv D K d := q_vv hN (i + 1) hi
    rw [e1, ih (by omega), e2]
    rcases (vv_K hd (K := K) d p).1 with c | c
    · conv => rhs; rw [flo_eq]
      rw [flo_eq d, c, fnx_0 (am := aOf D K (d + i + 1) p) (am' := aOf D K d p), fnx_id]
    · have hs : aOf D K (d + i + 1) p = aOf D K d p := by
        have e3 : (sa D K (per D p) (d + i + 1)).1 = (sa D K (per D p) d).1 + (i + 1) := by
          rw [q_sa hd hA hN i (by omega), if_pos (held_svg hp c)]
        have e4 : wl D K (d + i + 1) = wl D K d := q_wl hd hA (i + 1) hi
        unfold aOf
        rw [e3, e4, e2]
        have e5 := hS (i + 1) hi
        unfold dAm dBa
        rw [e5]
      rw [hs]
      conv => rhs; rw [flo_eq]
      rw [flo_eq d, fnx_id]
theorem q_pay {D : HS} (hd : DOK D) {K : Int32} {d n p : Nat} (hp : p < qP D) (hA : QA D d n) (hN : QN D d n) (hS : QS D K p d n) (i : Nat) (hi : i < n) : payD D K p (d + i) = payD D K p d := by
  unfold payD
  rw [q_flo hd hp hA hN hS i hi, q_vv hN i hi]
theorem i64_s {i : Nat} (h : i + 1 < 2147483648) : (nI (i + 1)).toInt64 = (nI i).toInt64 + 1 := by
  apply Int64.toInt_inj.mp
  rw [Int32.toInt_toInt64, n_int h, Int64.toInt_add, Int32.toInt_toInt64, n_int (by omega)]
  have : (1 : Int64).toInt = 1 := rfl
  rw [this]
  symm
  apply Int.bmod_eq_of_le <;> omega
theorem q_psum {D : HS} (hd : DOK D) {K : Int32} {d n p : Nat} (hp : p < qP D) (hA : QA D d n) (hN : QN D d n) (hS : QS D K p d n) (ln : n < 2147483648) : ∀ i, i ≤ n → psum D K p d i = (nI i).toInt64 * payD D K p d := by
  intro i
  induction i with
  | zero => intro _; show (0 : Int64) = (nI 0).toInt64 * _; rw [show (nI 0).toInt64 = 0 from rfl, Int64.zero_mul]
  | succ i ih =>
    intro hi
    show psum D K p d i + payD D K p (d + i) = _
    rw [ih (by omega), q_pay hd hp hA hN hS i (by omega), i64_s (by omega), Int64.add_mul, Int64.one_mul]
