/-! the days, as mathematics over the reference's data -/
def wl (D : HS) (K : Int32) (d k : Nat) : Option Nat := match wins D d K k with
  | none => none
  | some q => if gI D 6 q.2 = 0 then some q.2 else none
theorem lnI_wl {D : HS} {K : Int32} {d k : Nat} : lnI D (wins D d K k) = (wl D K d k).elim (-1) nI := by
  unfold lnI wl
  cases wins D d K k with
  | none => rfl
  | some q => show (if gI D 6 q.2 = 0 then nI q.2 else -1) = (if gI D 6 q.2 = 0 then some q.2 else none).elim (-1) nI; split <;> rfl
/-- a line that wins, as it must be -/
def GL (D : HS) (k n : Nat) : Prop := n < qL D (qA D) ∧ n < 480 ∧ qK D n = k ∧ gI D 6 n = 0 ∧ (k / 26 ≠ 2 → vp_in (gI D 10 n) 10000) ∧ (gI D 11 n = 0 ∨ gI D 11 n = 1) ∧ (gI D 11 n = 1 → vp_in (gI D 10 n) 1000) ∧ (k = 78 → gI D 10 n ≠ 0) ∧ (k / 26 = 2 → 1 ≤ Int32.toNatClampNeg (gI D 13 n) ∧ vp_in (gI D 13 n) 9 ∧ ∀ j, j < Int32.toNatClampNeg (gI D 13 n) → vp_in (gI D 12 (8 * n + j)) 10000) ∧ (gI D 7 n = -1 ∨ vp_in (gI D 7 n) 6)
theorem wl_GL {D : HS} (hd : DOK D) {K : Int32} {d k n : Nat} (h : wl D K d k = some n) : GL D k n := by
  unfold wl at h
  cases hw : wins D d K k with
  | none => rw [hw] at h; cases h
  | some q =>
    rw [hw] at h
    have h : (if gI D 6 q.2 = 0 then some q.2 else none) = some n := h
    by_cases c : gI D 6 q.2 = 0
    · rw [if_pos c] at h
      injection h with h
      subst h
      obtain ⟨_, l2, l3, _⟩ := wins_mem hd hw
      have h4 : qL D (qA D) < 481 := (n_of_in (hd.2.2.2.2.2.1 (qA D) (Nat.le_refl _))).2
      obtain ⟨_, _, o3, o4⟩ := hd.2.2.2.2.2.2.2.1 q.2 l2
      obtain ⟨p1, p2, p3, p4, p5⟩ := o4 c
      rw [l3] at p1 p4 p5
      exact ⟨l2, by omega, l3, c, p1, p2, p3, p4, p5, o3⟩
    · rw [if_neg c] at h; cases h
/-- lines by key, all as they must be -/
def WOK (D : HS) (W : Nat → Option Nat) : Prop := ∀ k n, W k = some n → GL D k n
theorem wl_WOK {D : HS} (hd : DOK D) (K : Int32) (d : Nat) : WOK D (wl D K d) := fun _ _ h => wl_GL hd h
def hol (D : HS) (V : Nat → Int32) (n : Nat) : Bool := if gI D 7 n = -1 then true else if gI D 8 n = 60 then decide (V (Int32.toNatClampNeg (gI D 7 n)) < gI D 9 n) else if gI D 8 n = 62 then decide (gI D 9 n < V (Int32.toNatClampNeg (gI D 7 n))) else decide (V (Int32.toNatClampNeg (gI D 7 n)) = gI D 9 n)
def pts (D : HS) (W : Nat → Option Nat) (V : Nat → Int32) : Nat → Int32
  | 0 => 0
  | i + 1 => match W i with
    | none => pts D W V i
    | some n => if hol D V n then pts D W V i + gI D 10 n else pts D W V i
def bfr (D : HS) (W : Nat → Option Nat) (g : Option Nat) : Int32 := match g with
  | none => -1
  | some g => (W (26 + g)).elim (-1) (gI D 10)
def grd (D : HS) (W : Nat → Option Nat) (P : Int32) : Nat → Option Nat
  | 0 => none
  | i + 1 => match W (26 + i) with
    | none => grd D W P i
    | some n => if gI D 10 n ≤ P ∧ bfr D W (grd D W P i) < gI D 10 n then some i else grd D W P i
def amt (D : HS) (W : Nat → Option Nat) (V : Nat → Int32) (b : Int32) : Nat → Int32
  | 0 => 100 * b
  | i + 1 => match W (130 + i) with
    | none => amt D W V b i
    | some n => if hol D V n then amt D W V b i + gI D 10 n * (if gI D 11 n = 0 then 100 else b) else amt D W V b i
def dPts (D : HS) (W : Nat → Option Nat) (V : Nat → Int32) : Int32 := pts D W V 26
def dGr (D : HS) (W : Nat → Option Nat) (V : Nat → Int32) : Option Nat := grd D W (dPts D W V) 26
def dSc (D : HS) (W : Nat → Option Nat) (V : Nat → Int32) : Option Nat := (dGr D W V).elim none (fun g => W (52 + g))
def dNo (D : HS) (W : Nat → Option Nat) (k : Nat) (z : Int32) : Int32 := (W k).elim z (gI D 10)
def dSt (D : HS) (W : Nat → Option Nat) (V : Nat → Int32) (s : Nat) : Int32 := (dSc D W V).elim (-1) (fun n => jmin (nI s / dNo D W 78 360) (gI D 13 n - 1))
def dBa (D : HS) (W : Nat → Option Nat) (V : Nat → Int32) (s : Nat) : Int32 := (dSc D W V).elim 0 (fun n => gI D 12 (8 * n + Int32.toNatClampNeg (dSt D W V s)))
def dAm (D : HS) (W : Nat → Option Nat) (V : Nat → Int32) (s : Nat) : Int32 := amt D W V (dBa D W V s) 26
/-! facts alone matter -/
theorem hol_cg {D : HS} {V V' : Nat → Int32} {n : Nat} (h : ∀ j, j < 6 → V j = V' j) (hn : gI D 7 n = -1 ∨ vp_in (gI D 7 n) 6) : hol D V n = hol D V' n := by
  unfold hol
  by_cases c : gI D 7 n = -1
  · rw [if_pos c, if_pos c]
  · have := (n_of_in (hn.resolve_left c)).2
    rw [h _ this]
theorem pts_cg {D : HS} {W : Nat → Option Nat} {V V' : Nat → Int32} (hW : WOK D W) (h : ∀ j, j < 6 → V j = V' j) : ∀ i, pts D W V i = pts D W V' i := by
  intro i
  induction i with
  | zero => rfl
  | succ i ih =>
    unfold pts
    cases hw : W i with
    | none => exact ih
    | some n => show (if hol D V n = true then _ else _) = (if hol D V' n = true then _ else _); rw [hol_cg h (hW _ _ hw).2.2.2.2.2.2.2.2.2, ih]
theorem amt_cg {D : HS} {W : Nat → Option Nat} {V V' : Nat → Int32} {b : Int32} (hW : WOK D W) (h : ∀ j, j < 6 → V j = V' j) : ∀ i, amt D W V b i = amt D W V' b i := by
  intro i
  induction i with
  | zero => rfl
  | succ i ih =>
    unfold amt
    cases hw : W (130 + i) with
    | none => exact ih
    | some n => show (if hol D V n = true then _ else _) = (if hol D V' n = true then _ else _); rw [hol_cg h (hW _ _ hw).2.2.2.2.2.2.2.2.2, ih]
theorem d_cg {D : HS} {W : Nat → Option Nat} {V V' : Nat → Int32} (hW : WOK D W) (h : ∀ j, j < 6 → V j = V' j) : dPts D W V = dPts D W V' ∧ dGr D W V = dGr D W V' ∧ dSc D W V = dSc D W V' ∧ dSt D W V = dSt D W V' ∧ dBa D W V = dBa D W V' ∧ dAm D W V = dAm D W V' := by
  have h1 : dPts D W V = dPts D W V' := pts_cg hW h 26
  have h2 : dGr D W V = dGr D W V' := by unfold dGr; rw [h1]
  have h3 : dSc D W V = dSc D W V' := by unfold dSc; rw [h2]
  have h4 : dSt D W V = dSt D W V' := by funext s; unfold dSt; rw [h3]
  have h5 : dBa D W V = dBa D W V' := by funext s; unfold dBa; rw [h3, h4]
  refine ⟨h1, h2, h3, h4, h5, ?_⟩
  funext s
  unfold dAm
  rw [h5, amt_cg hW h]
/-! bounds -/
theorem pts_b {D : HS} {W : Nat → Option Nat} {V : Nat → Int32} (hW : WOK D W) : ∀ i, i ≤ 26 → ∃ m, m ≤ i * 9999 ∧ pts D W V i = nI m := by
  intro i
  induction i with
  | zero => intro _; exact ⟨0, by omega, rfl⟩
  | succ i ih =>
    intro hi
    obtain ⟨m, l, e⟩ := ih (by omega)
    unfold pts
    cases hw : W i with
    | none => exact ⟨m, Nat.le_trans l (Nat.mul_le_mul_right _ (by omega)), e⟩
    | some n =>
      show ∃ m, m ≤ (i + 1) * 9999 ∧ (if hol D V n = true then pts D W V i + gI D 10 n else pts D W V i) = nI m
      obtain ⟨x, lx, ex⟩ := n_ex ((hW _ _ hw).2.2.2.2.1 (by omega))
      rw [e, ex, n_add]
      split
      · exact ⟨m + x, by omega, rfl⟩
      · exact ⟨m, Nat.le_trans l (Nat.mul_le_mul_right _ (by omega)), rfl⟩
theorem grd_b {D : HS} {W : Nat → Option Nat} {P : Int32} : ∀ i g, grd D W P i = some g → g < i ∧ ∃ n, W (26 + g) = some n := by
  intro i
  induction i with
  | zero => intro g h; cases h
  | succ i ih =>
    intro g h
    unfold grd at h
    cases hw : W (26 + i) with
    | none => rw [hw] at h; have := ih g h; exact ⟨by omega, this.2⟩
    | some n =>
      rw [hw] at h
      have h : (if gI D 10 n ≤ P ∧ bfr D W (grd D W P i) < gI D 10 n then some i else grd D W P i) = some g := h
      split at h
      · injection h with h; subst h; exact ⟨by omega, n, hw⟩
      · have := ih g h; exact ⟨by omega, this.2⟩
theorem dSc_GL {D : HS} {W : Nat → Option Nat} {V : Nat → Int32} (hW : WOK D W) {n : Nat} (h : dSc D W V = some n) : ∃ g, g < 26 ∧ dGr D W V = some g ∧ W (52 + g) = some n ∧ GL D (52 + g) n := by
  unfold dSc at h
  cases hg : dGr D W V with
  | none => rw [hg] at h; cases h
  | some g =>
    rw [hg] at h
    exact ⟨g, (grd_b 26 g hg).1, rfl, h, hW _ _ h⟩
theorem dNo_b {D : HS} {W : Nat → Option Nat} (hW : WOK D W) : ∃ m, 1 ≤ m ∧ m < 10000 ∧ dNo D W 78 360 = nI m := by
  unfold dNo
  cases hw : W 78 with
  | none => exact ⟨360, by omega, by omega, rfl⟩
  | some n =>
    obtain ⟨x, lx, ex⟩ := n_ex ((hW _ _ hw).2.2.2.2.1 (by omega))
    have h0 := (hW _ _ hw).2.2.2.2.2.2.2.1 rfl
    refine ⟨x, ?_, lx, ex⟩
    rcases Nat.eq_zero_or_pos x with h | h
    · subst h; exact absurd ex h0
    · omega
theorem dNo_g {D : HS} {W : Nat → Option Nat} (hW : WOK D W) : ∃ m, m < 10000 ∧ dNo D W 104 0 = nI m := by
  unfold dNo
  cases hw : W 104 with
  | none => exact ⟨0, by omega, rfl⟩
  | some n =>
    obtain ⟨x, lx, ex⟩ := n_ex ((hW _ _ hw).2.2.2.2.1 (by omega))
    exact ⟨x, lx, ex⟩
theorem j_min {a b : Nat} (ha : a < 2147483648) (hb : b < 2147483648) : jmin (nI a) (nI b) = nI (min a b) := by
  unfold jmin
  by_cases h : b < a
  · rw [if_pos ((n_lt hb ha).mpr h), Nat.min_eq_right (by omega)]
  · rw [if_neg (fun z => h ((n_lt hb ha).mp z)), Nat.min_eq_left (by omega)]
theorem j_max {a b : Nat} (ha : a < 2147483648) (hb : b < 2147483648) : jmax (nI a) (nI b) = nI (max a b) := by
  unfold jmax
  by_cases h : a < b
  · rw [if_pos ((n_lt ha hb).mpr h), Nat.max_eq_right (by omega)]
  · rw [if_neg (fun z => h ((n_lt ha hb).mp z)), Nat.max_eq_left (by omega)]
/-- the step of a scale -/
theorem dSt_b {D : HS} {W : Nat → Option Nat} {V : Nat → Int32} (hW : WOK D W) {s n : Nat} (hs : s < 2147483648) (h : dSc D W V = some n) : ∃ m x, 1 ≤ m ∧ m < 10000 ∧ dNo D W 78 360 = nI m ∧ 1 ≤ x ∧ x ≤ 8 ∧ gI D 13 n = nI x ∧ dSt D W V s = nI (min (s / m) (x - 1)) := by
  obtain ⟨g, lg, _, _, G⟩ := dSc_GL hW h
  obtain ⟨m, m1, m2, em⟩ := dNo_b hW
  obtain ⟨x1, x2, x3⟩ := G.2.2.2.2.2.2.2.2.1 (by omega)
  obtain ⟨x, lx, ex⟩ := n_ex x2
  rw [ex, n_cl (by omega)] at x1
  refine ⟨m, x, m1, m2, em, x1, by omega, ex, ?_⟩
  unfold dSt
  rw [h]
  show jmin (nI s / dNo D W 78 360) (gI D 13 n - 1) = _
  have h1 : s / m ≤ s := Nat.div_le_self s m
  rw [em, ex, n_div hs (by omega), show nI x - 1 = nI (x - 1) by rw [n_lit, n_sub (by omega)], j_min (by omega) (by omega)]
theorem dBa_b {D : HS} {W : Nat → Option Nat} {V : Nat → Int32} (hW : WOK D W) {s : Nat} (hs : s < 2147483648) : ∃ b, b < 10000 ∧ dBa D W V s = nI b := by
  cases h : dSc D W V with
  | none => unfold dBa; rw [h]; exact ⟨0, by omega, rfl⟩
  | some n =>
    obtain ⟨m, x, m1, m2, em, x1, x2, ex, es⟩ := dSt_b hW hs h
    obtain ⟨g, lg, _, _, G⟩ := dSc_GL hW h
    have hj := (G.2.2.2.2.2.2.2.2.1 (by omega)).2.2 (min (s / m) (x - 1)) (by rw [ex, n_cl (by omega)]; omega)
    obtain ⟨b, lb, eb⟩ := n_ex hj
    refine ⟨b, lb, ?_⟩
    unfold dBa
    rw [h]
    show gI D 12 (8 * n + Int32.toNatClampNeg (dSt D W V s)) = nI b
    rw [es, n_cl (by omega), eb]
theorem amt_b {D : HS} {W : Nat → Option Nat} {V : Nat → Int32} (hW : WOK D W) {b : Nat} (hb : b < 10000) : ∀ i, i ≤ 26 → ∃ m, m ≤ 999900 + i * 9989001 ∧ amt D W V (nI b) i = nI m := by
  intro i
  induction i with
  | zero =>
    intro _
    refine ⟨100 * b, by omega, ?_⟩
    unfold amt
    rw [n_lit, n_mul]
  | succ i ih =>
    intro hi
    obtain ⟨m, l, e⟩ := ih (by omega)
    unfold amt
    cases hw : W (130 + i) with
    | none => exact ⟨m, Nat.le_trans l (Nat.add_le_add_left (Nat.mul_le_mul_right _ (by omega)) _), e⟩
    | some n =>
      show ∃ m, m ≤ 999900 + (i + 1) * 9989001 ∧ (if hol D V n = true then amt D W V (nI b) i + gI D 10 n * (if gI D 11 n = 0 then 100 else nI b) else amt D W V (nI b) i) = nI m
      obtain ⟨x, lx, ex⟩ := n_ex ((hW _ _ hw).2.2.2.2.1 (by omega))
      have h1 := (hW _ _ hw).2.2.2.2.2.1
      have h2 := (hW _ _ hw).2.2.2.2.2.2.1
      rw [e, ex]
      split
      · split
        · rw [show (100 : Int32) = nI 100 from rfl, n_mul, n_add]
          exact ⟨m + x * 100, by omega, rfl⟩
        · rename_i h3
          have h4 := h2 (h1.resolve_left h3)
          rw [ex, n_in (by omega)] at h4
          rw [n_mul, n_add]
          have : x * b ≤ 999 * 9999 := Nat.mul_le_mul (by omega) (by omega)
          exact ⟨m + x * b, by omega, rfl⟩
      · exact ⟨m, Nat.le_trans l (Nat.add_le_add_left (Nat.mul_le_mul_right _ (by omega)) _), rfl⟩
theorem dAm_b {D : HS} {W : Nat → Option Nat} {V : Nat → Int32} (hW : WOK D W) {s : Nat} (hs : s < 2147483648) : ∃ m, m < 300000000 ∧ dAm D W V s = nI m := by
  obtain ⟨b, lb, eb⟩ := dBa_b (V := V) hW hs
  obtain ⟨m, lm, em⟩ := amt_b (V := V) hW lb 26 (Nat.le_refl _)
  refine ⟨m, by omega, ?_⟩
  unfold dAm
  rw [eb, em]
theorem dPts_b {D : HS} {W : Nat → Option Nat} {V : Nat → Int32} (hW : WOK D W) : ∃ m, m < 300000 ∧ dPts D W V = nI m := by
  obtain ⟨m, lm, em⟩ := pts_b (V := V) hW 26 (Nat.le_refl _)
  exact ⟨m, by omega, em⟩
/-! notes, service, floors, pay -/
def nFr (D : HS) (k : Nat) : Nat := Int32.toNatClampNeg (gI D 17 k)
def dn (D : HS) (d : Nat) : List Nat := (List.range (qN D)).filter (fun k => nFr D k == d)
def nst (D : HS) (K : Int32) (v : Nat → Nat → Int32) (k : Nat) : Nat → Nat → Int32 := if gI D 18 k ≤ K then up2 v (Int32.toNatClampNeg (gI D 15 k)) (Int32.toNatClampNeg (gI D 16 k)) (gI D 19 k) else v
def v0 : Nat → Nat → Int32 := fun _ w => if w = 7 then 11 else 0
def vv (D : HS) (K : Int32) : Nat → Nat → Nat → Int32
  | 0 => (dn D 0).foldl (nst D K) v0
  | d + 1 => (dn D (d + 1)).foldl (nst D K) (vv D K d)
def vpr (D : HS) (K : Int32) : Nat → Nat → Nat → Int32
  | 0 => v0
  | d + 1 => vv D K d
theorem vv_eq {D : HS} {K : Int32} (d : Nat) : vv D K d = (dn D d).foldl (nst D K) (vpr D K d) := by cases d <;> rfl
def per (D : HS) (q : Nat) : Nat := Int32.toNatClampNeg (gI D 14 q)
/-- does a person hold a post -/
def svg (D : HS) (K : Int32) (d who : Nat) : Bool := (List.range (qP D)).any (fun q => per D q == who && vv D K d q 6 == 1)
def gap (D : HS) (K : Int32) (d : Nat) : Nat := Int32.toNatClampNeg (dNo D (wl D K d) 104 0)
/-- service, and days without a post -/
def sa (D : HS) (K : Int32) (who : Nat) : Nat → Nat × Nat
  | 0 => (0, 0)
  | d + 1 => if svg D K d who then ((sa D K who d).1 + 1, 0) else (if gap D K d < (sa D K who d).2 + 1 then 0 else (sa D K who d).1, (sa D K who d).2 + 1)
theorem sa_b {D : HS} {K : Int32} {who : Nat} : ∀ d, (sa D K who d).1 ≤ d ∧ (sa D K who d).2 ≤ d := by
  intro d
  induction d with
  | zero => exact ⟨Nat.le_refl _, Nat.le_refl _⟩
  | succ d ih =>
    unfold sa
    split
    · exact ⟨by show (sa D K who d).1 + 1 ≤ d + 1; omega, Nat.zero_le _⟩
    · refine ⟨?_, by show (sa D K who d).2 + 1 ≤ d + 1; omega⟩
      show (if _ then 0 else (sa D K who d).1) ≤ d + 1
      split <;> omega
def pfl (D : HS) (K : Int32) (q : Nat) (g : Int32) (t : Int32 × Int32) (k : Nat) : Int32 × Int32 := if gI D 18 k ≤ K ∧ Int32.toNatClampNeg (gI D 15 k) = q ∧ gI D 16 k = 8 then (if gI D 19 k = 1 then 1 else 0, g) else t
/-- is there a floor, which, and what is given, behind a day -/
def fnx (hd am : Int32) (t : Int32 × Int32) : Int32 × Int32 × Int32 := if hd = 0 then (t.1, t.2, 0) else if t.1 ≠ 0 ∧ am < t.2 then (t.1, t.2, t.2) else (0, t.2, am)
def aOf (D : HS) (K : Int32) (d q : Nat) : Int32 := dAm D (wl D K d) (vv D K d q) (sa D K (per D q) d).1
def flo (D : HS) (K : Int32) (q : Nat) : Nat → Int32 × Int32 × Int32
  | 0 => fnx (vv D K 0 q 6) (aOf D K 0 q) ((dn D 0).foldl (pfl D K q 0) (0, 0))
  | d + 1 => fnx (vv D K (d + 1) q 6) (aOf D K (d + 1) q) ((dn D (d + 1)).foldl (pfl D K q (flo D K q d).2.2) ((flo D K q d).1, (flo D K q d).2.1))
def fpr (D : HS) (K : Int32) (q : Nat) : Nat → Int32 × Int32 × Int32
  | 0 => (0, 0, 0)
  | d + 1 => flo D K q d
theorem flo_eq {D : HS} {K : Int32} {q : Nat} (d : Nat) : flo D K q d = fnx (vv D K d q 6) (aOf D K d q) ((dn D d).foldl (pfl D K q (fpr D K q d).2.2) ((fpr D K q d).1, (fpr D K q d).2.1)) := by cases d <;> rfl
def payI (g v : Int32) : Int64 := ((840 * g.toInt64) * (v / 10).toInt64) / (v - v / 10 * 10).toInt64
def payD (D : HS) (K : Int32) (q d : Nat) : Int64 := payI (flo D K q d).2.2 (vv D K d q 7)
def psum (D : HS) (K : Int32) (q a : Nat) : Nat → Int64
  | 0 => 0
  | n + 1 => psum D K q a n + payD D K q (a + n)
theorem psum_add {D : HS} {K : Int32} {q a m : Nat} : ∀ n, psum D K q a (m + n) = psum D K q a m + psum D K q (a + m) n := by
  intro n
  induction n with
  | zero => show psum D K q a m = psum D K q a m + 0; rw [Int64.add_zero]
  | succ n ih =>
    show psum D K q a (m + n) + payD D K q (a + (m + n)) = psum D K q a m + (psum D K q (a + m) n + payD D K q (a + m + n))
    rw [ih, Int64.add_assoc, Nat.add_assoc]
/-! values stay as they must be -/
def VVK (v : Nat → Nat → Int32) : Prop := ∀ q, (v q 6 = 0 ∨ v q 6 = 1) ∧ (v q 8 = 0 ∨ v q 8 = 1) ∧ ∃ x, v q 7 = nI x ∧ x < 89 ∧ 1 ≤ x % 10
theorem v0_K : VVK v0 := fun q => ⟨Or.inl rfl, Or.inl rfl, 11, rfl, by omega, by omega⟩
theorem nst_K {D : HS} (hd : DOK D) {K : Int32} {v : Nat → Nat → Int32} (h : VVK v) {k : Nat} (hk : k < qN D) : VVK (nst D K v k) := by
  unfold nst
  split
  · obtain ⟨n1, n2, n3, n4⟩ := hd.2.2.2.2.2.2.2.2.1 k hk
    obtain ⟨w, lw, ew⟩ := n_ex n2
    obtain ⟨o1, o2⟩ := n4
    intro q
    obtain ⟨h1, h2, h3⟩ := h q
    rw [ew, n_cl (by omega)]
    by_cases e : q = Int32.toNatClampNeg (gI D 15 k)
    · subst e
      refine ⟨?_, ?_, ?_⟩
      · by_cases c : w = 6
        · subst c; rw [up2_eq]; exact o1 (Or.inl ew)
        · rw [up2_nk (fun z => c z.symm)]; exact h1
      · by_cases c : w = 8
        · subst c; rw [up2_eq]; exact o1 (Or.inr ew)
        · rw [up2_nk (fun z => c z.symm)]; exact h2
      · by_cases c : w = 7
        · subst c; rw [up2_eq]
          obtain ⟨p1, p2, _⟩ := o2 ew
          obtain ⟨x, lx, ex⟩ := n_ex p1
          rw [ex, n_cl (by omega)] at p2
          exact ⟨x, ex, lx, p2⟩
        · rw [up2_nk (fun z => c z.symm)]; exact h3
    · rw [up2_ne e]; exact h q
  · exact h
theorem nst_Ks {D : HS} (hd : DOK D) {K : Int32} : ∀ (ks : List Nat) (v : Nat → Nat → Int32), VVK v → (∀ k ∈ ks, k < qN D) → VVK (ks.foldl (nst D K) v) := by
  intro ks
  induction ks with
  | nil => intro v h _; exact h
  | cons k ks ih => intro v h hk; exact ih _ (nst_K hd h (hk k (by simp))) (fun j hj => hk j (by simp [hj]))
theorem dn_mem {D : HS} {d k : Nat} (h : k ∈ dn D d) : k < qN D ∧ nFr D k = d := by
  unfold dn at h
  rw [List.mem_filter] at h
  exact ⟨List.mem_range.mp h.1, by simpa using h.2⟩
theorem vv_K {D : HS} (hd : DOK D) {K : Int32} : ∀ d, VVK (vv D K d) := by
  intro d
  induction d with
  | zero => exact nst_Ks hd _ _ v0_K (fun k hk => (dn_mem hk).1)
  | succ d ih => exact nst_Ks hd _ _ ih (fun k hk => (dn_mem hk).1)
