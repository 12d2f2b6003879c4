/-! working states of the reference: its arrays 20 .. 33 and its dues -/
abbrev AA : Type := Nat → Nat → Int32
def up1 {α : Type} (f : Nat → α) (k : Nat) (v : α) : Nat → α := fun j => if j = k then v else f j
theorem up1_eq {α : Type} {f : Nat → α} {k : Nat} {v : α} : up1 f k v k = v := if_pos rfl
theorem up1_ne {α : Type} {f : Nat → α} {k j : Nat} {v : α} (h : j ≠ k) : up1 f k v j = f j := if_neg h
theorem up2_eq {α : Type} {A : Nat → Nat → α} {c k : Nat} {v : α} : up2 A c k v c k = v := if_pos ⟨rfl, rfl⟩
theorem up2_ne {α : Type} {A : Nat → Nat → α} {c b k : Nat} {v : α} (h : b ≠ c) : up2 A c k v b = A b := by
  funext j; exact if_neg (fun z => h z.1)
theorem up2_nk {α : Type} {A : Nat → Nat → α} {c b k j : Nat} {v : α} (h : j ≠ k) : up2 A c k v b j = A b j := if_neg (fun z => h z.2)
theorem up2_up {α : Type} {A : Nat → Nat → α} {c k : Nat} {v w : α} : up2 (up2 A c k v) c k w = up2 A c k w := by
  funext b j
  unfold up2
  by_cases h : b = c ∧ j = k
  · rw [if_pos h, if_pos h]
  · rw [if_neg h, if_neg h, if_neg h]
theorem up2_id {α : Type} {A : Nat → Nat → α} {c k : Nat} : up2 A c k (A c k) = A := by
  funext b j
  unfold up2
  split
  · rename_i h; rw [h.1, h.2]
  · rfl
def mk (D : HS) (A : AA) (J : Nat → Int64) : HS := (fun c j => if 20 ≤ c ∧ c < 34 then A c j else gI D c j, gR D, fun c j => if c = 34 then J j else gJ D c j, gK D, gN D, gZ D)
theorem mk_a {D : HS} {A : AA} {J : Nat → Int64} {c j : Nat} (h1 : 20 ≤ c) (h2 : c < 34) : gI (mk D A J) c j = A c j := if_pos ⟨h1, h2⟩
theorem mk_lo {D : HS} {A : AA} {J : Nat → Int64} {c : Nat} (h : c < 20) : gI (mk D A J) c = gI D c := by funext j; exact if_neg (by omega)
theorem mk_hi {D : HS} {A : AA} {J : Nat → Int64} {c : Nat} (h : 34 ≤ c) : gI (mk D A J) c = gI D c := by funext j; exact if_neg (by omega)
theorem mk_j {D : HS} {A : AA} {J : Nat → Int64} {j : Nat} : gJ (mk D A J) 34 j = J j := rfl
theorem mk_jn {D : HS} {A : AA} {J : Nat → Int64} {c : Nat} (h : c ≠ 34) : gJ (mk D A J) c = gJ D c := by funext j; exact if_neg h
theorem mk_s {D : HS} {A : AA} {J : Nat → Int64} {c k : Nat} {v : Int32} (h1 : 20 ≤ c) (h2 : c < 34) : sI (mk D A J) c k v = mk D (up2 A c k v) J := by
  refine Prod.ext ?_ rfl
  funext b j
  show (if b = c ∧ j = k then v else if 20 ≤ b ∧ b < 34 then A b j else gI D b j) = (if 20 ≤ b ∧ b < 34 then (if b = c ∧ j = k then v else A b j) else gI D b j)
  by_cases h : b = c ∧ j = k
  · rw [if_pos h, if_pos (by omega), if_pos h]
  · rw [if_neg h, if_neg h]
theorem mk_sJ {D : HS} {A : AA} {J : Nat → Int64} {k : Nat} {v : Int64} : sJ (mk D A J) 34 k v = mk D A (up1 J k v) := by
  refine Prod.ext rfl (Prod.ext rfl (Prod.ext ?_ rfl))
  funext b j
  show (if b = 34 ∧ j = k then v else if b = 34 then J j else gJ D b j) = (if b = 34 then (if j = k then v else J j) else gJ D b j)
  by_cases h : b = 34
  · subst h; simp
  · simp [h]
theorem mk_self {D : HS} : mk D (gI D) (gJ D 34) = D := by
  refine Prod.ext ?_ (Prod.ext rfl (Prod.ext ?_ rfl))
  · funext b j; show (if 20 ≤ b ∧ b < 34 then gI D b j else gI D b j) = gI D b j; simp
  · funext b j
    show (if b = 34 then gJ D 34 j else gJ D b j) = gJ D b j
    by_cases h : b = 34
    · subst h; simp
    · simp [h]
theorem mk_MS {D : HS} {A : AA} {J : Nat → Int64} : MS D (mk D A J) := ⟨fun c _ h2 => mk_lo h2, rfl, rfl, rfl⟩
theorem mk_ES {D : HS} {A : AA} {J : Nat → Int64} : ES D (mk D A J) := ⟨rfl, rfl, rfl, rfl, rfl, rfl, rfl, rfl, rfl, rfl, rfl, rfl, rfl, rfl, rfl, rfl, rfl⟩
theorem mk_RR {k : Nat} {SC D : HS} {A : AA} {J : Nat → Int64} (h : RR k SC D) : RR k SC (mk D A J) := by
  obtain ⟨e, LA, NL, oA, oL, oN, d⟩ := h
  exact ⟨mk_ES.ERel e, LA, NL, oA, oL, oN, mk_MS.DRel d⟩
/-! lines and winners -/
theorem qL_le {D : HS} (hd : DOK D) : ∀ (i a : Nat), a + i ≤ qA D → qL D a ≤ qL D (a + i) := by
  intro i
  induction i with
  | zero => intro a _; exact Nat.le_refl _
  | succ i ih =>
    intro a h
    have h1 := ih a (by omega)
    have h2 := (hd.2.2.2.2.2.2.1 (a + i) (by omega)).1
    exact Nat.le_trans h1 h2
theorem qL_lt {D : HS} (hd : DOK D) {a n : Nat} (ha : a < qA D) (h : n < qL D (a + 1)) : n < qL D (qA D) := by
  have := qL_le hd (qA D - (a + 1)) (a + 1) (by omega)
  rw [show a + 1 + (qA D - (a + 1)) = qA D by omega] at this
  omega
theorem mem_lns {D : HS} {a : Nat} {q : Nat × Nat} : q ∈ lns D a ↔ q.1 = a ∧ qL D a ≤ q.2 ∧ q.2 < qL D (a + 1) := by
  unfold lns
  rw [List.mem_map]
  constructor
  · rintro ⟨i, hi, rfl⟩
    rw [List.mem_range] at hi
    exact ⟨rfl, by simp, by simp; omega⟩
  · rintro ⟨h1, h2, h3⟩
    refine ⟨q.2 - qL D a, List.mem_range.mpr (by omega), ?_⟩
    rw [← h1]
    refine Prod.ext rfl ?_
    show qL D q.1 + (q.2 - qL D q.1) = q.2
    rw [h1]; omega
/-- all lines -/
def alls (D : HS) : List (Nat × Nat) := (List.range (qA D)).flatMap (lns D)
theorem mem_alls {D : HS} (hd : DOK D) {q : Nat × Nat} (h : q ∈ alls D) : q.1 < qA D ∧ q.2 < qL D (qA D) ∧ q ∈ lns D q.1 := by
  unfold alls at h
  rw [List.mem_flatMap] at h
  obtain ⟨a, h1, h2⟩ := h
  rw [List.mem_range] at h1
  have h3 := mem_lns.mp h2
  rw [h3.1]
  exact ⟨h1, qL_lt hd h1 h3.2.2, h2⟩
def hit (D : HS) (day : Nat) (K : Int32) (k : Nat) (q : Nat × Nat) : Prop := qK D q.2 = k ∧ gI D 2 q.1 ≤ K ∧ qF D q.1 ≤ day
theorem wMax_f {D : HS} {day : Nat} {K : Int32} {k : Nat} {w : Option (Nat × Nat)} {q : Nat × Nat} (h : ¬ hit D day K k q) : wMax D day K k w q = w := if_neg h
theorem wLast_f {D : HS} {day : Nat} {K : Int32} {k : Nat} {w : Option (Nat × Nat)} {q : Nat × Nat} (h : ¬ hit D day K k q) : wLast D day K k w q = w := if_neg h
theorem wLast_t {D : HS} {day : Nat} {K : Int32} {k : Nat} {w : Option (Nat × Nat)} {q : Nat × Nat} (h : hit D day K k q) : wLast D day K k w q = some q := if_pos h
theorem wMax_n {D : HS} {day : Nat} {K : Int32} {k : Nat} {q : Nat × Nat} (h : hit D day K k q) : wMax D day K k none q = some q := if_pos h
theorem wMax_s {D : HS} {day : Nat} {K : Int32} {k : Nat} {b q : Nat × Nat} (h : hit D day K k q) : wMax D day K k (some b) q = if qF D b.1 ≤ qF D q.1 then some q else some b := if_pos h
noncomputable def hitb (D : HS) (day : Nat) (K : Int32) (k : Nat) (q : Nat × Nat) : Bool := @decide (hit D day K k q) (Classical.propDecidable _)
theorem hitb_t {D : HS} {day : Nat} {K : Int32} {k : Nat} {q : Nat × Nat} : hitb D day K k q = true ↔ hit D day K k q := by unfold hitb; simp
noncomputable def ncnt (D : HS) (day : Nat) (K : Int32) (k : Nat) (qs : List (Nat × Nat)) : Nat := qs.countP (hitb D day K k)
def wf (D : HS) (day : Nat) (K : Int32) (k : Nat) (qs : List (Nat × Nat)) : Option (Nat × Nat) := qs.foldl (wMax D day K k) none
def wg (D : HS) (day : Nat) (K : Int32) (k : Nat) (qs : List (Nat × Nat)) : Option (Nat × Nat) := qs.foldl (wLast D day K k) none
theorem wf_app {D : HS} {day : Nat} {K : Int32} {k : Nat} {qs : List (Nat × Nat)} {q : Nat × Nat} : wf D day K k (qs ++ [q]) = wMax D day K k (wf D day K k qs) q := by unfold wf; rw [List.foldl_append]; rfl
theorem wg_app {D : HS} {day : Nat} {K : Int32} {k : Nat} {qs : List (Nat × Nat)} {q : Nat × Nat} : wg D day K k (qs ++ [q]) = wLast D day K k (wg D day K k qs) q := by unfold wg; rw [List.foldl_append]; rfl
theorem ncnt_app {D : HS} {day : Nat} {K : Int32} {k : Nat} {qs : List (Nat × Nat)} {q : Nat × Nat} : ncnt D day K k (qs ++ [q]) = ncnt D day K k qs + if hitb D day K k q then 1 else 0 := by
  unfold ncnt; rw [List.countP_append, List.countP_singleton]
theorem wf_skip {D : HS} {day : Nat} {K : Int32} {k : Nat} {qs rs : List (Nat × Nat)} (h : ∀ q ∈ rs, ¬ hit D day K k q) : wf D day K k (qs ++ rs) = wf D day K k qs ∧ ncnt D day K k (qs ++ rs) = ncnt D day K k qs ∧ wg D day K k (qs ++ rs) = wg D day K k qs := by
  induction rs generalizing qs with
  | nil => rw [List.append_nil]; exact ⟨rfl, rfl, rfl⟩
  | cons r rs ih =>
    have e : qs ++ r :: rs = (qs ++ [r]) ++ rs := by simp
    have h0 := h r (by simp)
    obtain ⟨i1, i2, i3⟩ := ih (qs := qs ++ [r]) (fun q hq => h q (by simp [hq]))
    rw [e, i1, i2, i3, wf_app, wg_app, ncnt_app, wMax_f h0, wLast_f h0, if_neg (fun z => h0 (hitb_t.mp z))]
    exact ⟨rfl, rfl, rfl⟩
theorem wf_some {D : HS} {day : Nat} {K : Int32} {k : Nat} : ∀ (qs : List (Nat × Nat)) (w : Option (Nat × Nat)) (q : Nat × Nat), qs.foldl (wMax D day K k) w = some q → w = some q ∨ (q ∈ qs ∧ hit D day K k q) := by
  intro qs
  induction qs with
  | nil => intro w q h; exact Or.inl h
  | cons r rs ih =>
    intro w q h
    rw [List.foldl_cons] at h
    rcases ih _ _ h with h1 | h1
    · by_cases hr : hit D day K k r
      · cases w with
        | none =>
          rw [wMax_n hr] at h1
          injection h1 with h1
          subst h1
          exact Or.inr ⟨by simp, hr⟩
        | some b =>
          rw [wMax_s hr] at h1
          split at h1
          · injection h1 with h1
            subst h1
            exact Or.inr ⟨by simp, hr⟩
          · exact Or.inl h1
      · rw [wMax_f hr] at h1
        exact Or.inl h1
    · exact Or.inr ⟨by simp [h1.1], h1.2⟩
theorem wg_some {D : HS} {day : Nat} {K : Int32} {k : Nat} : ∀ (qs : List (Nat × Nat)) (w : Option (Nat × Nat)) (q : Nat × Nat), qs.foldl (wLast D day K k) w = some q → w = some q ∨ (q ∈ qs ∧ hit D day K k q) := by
  intro qs
  induction qs with
  | nil => intro w q h; exact Or.inl h
  | cons r rs ih =>
    intro w q h
    rw [List.foldl_cons] at h
    rcases ih _ _ h with h1 | h1
    · by_cases hr : hit D day K k r
      · rw [wLast_t hr] at h1
        injection h1 with h1
        subst h1
        exact Or.inr ⟨by simp, hr⟩
      · rw [wLast_f hr] at h1
        exact Or.inl h1
    · exact Or.inr ⟨by simp [h1.1], h1.2⟩
theorem wf_mem {D : HS} {day : Nat} {K : Int32} {k : Nat} {qs : List (Nat × Nat)} {q : Nat × Nat} (h : wf D day K k qs = some q) : q ∈ qs ∧ hit D day K k q := by
  rcases wf_some qs none q h with h | h
  · cases h
  · exact h
theorem wg_mem {D : HS} {day : Nat} {K : Int32} {k : Nat} {qs : List (Nat × Nat)} {q : Nat × Nat} (h : wg D day K k qs = some q) : q ∈ qs ∧ hit D day K k q := by
  rcases wg_some qs none q h with h | h
  · cases h
  · exact h
theorem wins_mem {D : HS} (hd : DOK D) {day : Nat} {K : Int32} {k : Nat} {q : Nat × Nat} (h : wins D day K k = some q) : q.1 < qA D ∧ q.2 < qL D (qA D) ∧ qK D q.2 = k ∧ gI D 2 q.1 ≤ K ∧ qF D q.1 ≤ day := by
  have h1 := wf_mem (qs := alls D) (show wf D day K k (alls D) = some q from h)
  have h2 := mem_alls hd h1.1
  exact ⟨h2.1, h2.2.1, h1.2⟩
def lnI (D : HS) (w : Option (Nat × Nat)) : Int32 := match w with
  | none => -1
  | some q => if gI D 6 q.2 = 0 then nI q.2 else -1
def agI (w : Option (Nat × Nat)) : Int32 := match w with
  | none => -1
  | some q => nI q.1
/-- the reference's laws after some lines -/
def LI (D : HS) (day : Nat) (K : Int32) (qs : List (Nat × Nat)) (A : AA) : Prop := ∀ k, k < 156 → A 20 k = lnI D (wf D day K k qs) ∧ A 21 k = agI (wf D day K k qs) ∧ A 22 k = nI (ncnt D day K k qs)
theorem laws_2 {D : HS} {J : Nat → Int64} {x1 x2 : Int32} : ∀ (i k n : Nat) (A : AA), k + i = 156 → i < n → ∃ A', fn_X9_lawsOf_2 n x1 x2 (nI k) (mk D A J) = fn_X9_lawsOf_38 hFuel x1 x2 0 (mk D A' J) ∧ (∀ j, k ≤ j → j < 156 → A' 20 j = -1 ∧ A' 21 j = -1 ∧ A' 22 j = 0) ∧ (∀ j, j < k → A' 20 j = A 20 j ∧ A' 21 j = A 21 j ∧ A' 22 j = A 22 j) ∧ ∀ c, c ≠ 20 → c ≠ 21 → c ≠ 22 → A' c = A c := by
  intro i
  induction i with
  | zero =>
    intro k n A e hn
    obtain ⟨n, rfl⟩ : ∃ m, n = m + 1 := ⟨n - 1, by omega⟩
    have e : k = 156 := by omega
    subst e
    refine ⟨A, ?_, fun j h1 h2 => by omega, fun j _ => ⟨rfl, rfl, rfl⟩, fun c _ _ _ => rfl⟩
    conv => lhs; unfold fn_X9_lawsOf_2
    exact cd_t (by decide)
  | succ i ih =>
    intro k n A e hn
    obtain ⟨n, rfl⟩ : ∃ m, n = m + 1 := ⟨n - 1, by omega⟩
    have hk : k < 156 := by omega
    obtain ⟨A', q1, q2, q3, q4⟩ := ih (k + 1) n (up2 (up2 (up2 A 20 k (-1)) 21 k (-1)) 22 k 0) (by omega) (by omega)
    refine ⟨A', ?_, fun j h1 h2 => ?_, fun j h1 => ?_, fun c h1 h2 h3 => ?_⟩
    · conv => lhs; unfold fn_X9_lawsOf_2
      have f1 : ¬ (156 : Int32) ≤ nI k := by rw [n_lit, n_le (by omega) (by omega)]; omega
      have f2 : vp_in (nI k) 156 := (n_in (by omega)).mpr hk
      have f3 : (nI k).toNatClampNeg = k := n_cl (by omega)
      have f4 : nI k + 1 = nI (k + 1) := by rw [n_lit, n_add]
      simp only [f1, f2, f3, f4, cd_F, gd_T, bn_s, mk_s (show 20 ≤ 20 by decide) (show 20 < 34 by decide), mk_s (show 20 ≤ 21 by decide) (show 21 < 34 by decide), mk_s (show 20 ≤ 22 by decide) (show 22 < 34 by decide)]
      exact q1
    · by_cases ej : j = k
      · subst ej
        obtain ⟨r1, r2, r3⟩ := q3 j (by omega)
        rw [r1, r2, r3]
        refine ⟨?_, ?_, up2_eq⟩
        · rw [up2_ne (by decide), up2_ne (by decide), up2_eq]
        · rw [up2_ne (by decide), up2_eq]
      · exact q2 j (by omega) h2
    · obtain ⟨r1, r2, r3⟩ := q3 j (by omega)
      rw [r1, r2, r3, up2_nk (by omega), up2_nk (by omega), up2_nk (by omega), up2_nk (by omega), up2_nk (by omega), up2_nk (by omega), up2_nk (by omega), up2_nk (by omega), up2_nk (by omega)]
      exact ⟨rfl, rfl, rfl⟩
    · rw [q4 c h1 h2 h3, up2_ne h3, up2_ne h2, up2_ne h1]
theorem mk_s20 {D : HS} {A : AA} {J : Nat → Int64} {k : Nat} {v : Int32} : sI (mk D A J) 20 k v = mk D (up2 A 20 k v) J := mk_s (by decide) (by decide)
theorem mk_s21 {D : HS} {A : AA} {J : Nat → Int64} {k : Nat} {v : Int32} : sI (mk D A J) 21 k v = mk D (up2 A 21 k v) J := mk_s (by decide) (by decide)
theorem mk_s22 {D : HS} {A : AA} {J : Nat → Int64} {k : Nat} {v : Int32} : sI (mk D A J) 22 k v = mk D (up2 A 22 k v) J := mk_s (by decide) (by decide)
theorem LI_step {D : HS} {day : Nat} {K : Int32} {qs : List (Nat × Nat)} {A B : AA} {a n k : Nat} (h : LI D day K qs A) (qk : qK D n = k) (hv : gI D 2 a ≤ K ∧ qF D a ≤ day)
    (h0 : ∀ j, j ≠ k → B 20 j = A 20 j ∧ B 21 j = A 21 j ∧ B 22 j = A 22 j) (h22 : B 22 k = A 22 k + 1)
    (h1 : (wf D day K k qs = none ∨ ∃ b, wf D day K k qs = some b ∧ qF D b.1 ≤ qF D a) → B 21 k = nI a ∧ B 20 k = if gI D 6 n = 0 then nI n else -1)
    (h2 : (∃ b, wf D day K k qs = some b ∧ ¬ qF D b.1 ≤ qF D a) → B 21 k = A 21 k ∧ B 20 k = A 20 k) : LI D day K (qs ++ [(a, n)]) B := by
  intro j hj
  obtain ⟨i1, i2, i3⟩ := h j hj
  rw [wf_app, ncnt_app]
  by_cases e : j = k
  · subst e
    have ht : hit D day K j (a, n) := ⟨qk, hv.1, hv.2⟩
    rw [if_pos (hitb_t.mpr ht), h22, i3]
    refine and_assoc.mp ⟨?_, by rw [n_lit, n_add]⟩
    cases hw : wf D day K j qs with
    | none =>
      obtain ⟨u1, u2⟩ := h1 (Or.inl hw)
      rw [wMax_n ht, u1, u2]
      exact ⟨rfl, rfl⟩
    | some b =>
      rw [wMax_s ht]
      by_cases c : qF D b.1 ≤ qF D a
      · obtain ⟨u1, u2⟩ := h1 (Or.inr ⟨b, hw, c⟩)
        rw [if_pos c, u1, u2]
        exact ⟨rfl, rfl⟩
      · obtain ⟨u1, u2⟩ := h2 ⟨b, hw, c⟩
        rw [if_neg c, u1, u2, i1, i2, hw]
        exact ⟨rfl, rfl⟩
  · have hf : ¬ hit D day K j (a, n) := fun z => e (by rw [← z.1]; exact qk)
    obtain ⟨r1, r2, r3⟩ := h0 j e
    rw [wMax_f hf, if_neg (fun z => hf (hitb_t.mp z)), r1, r2, r3]
    exact ⟨i1, i2, i3⟩
theorem laws_77_step {D : HS} {J : Nat → Int64} {day : Nat} {K x1 x2 : Int32} {qs : List (Nat × Nat)} {A : AA} {a n m : Nat} {k38 : Int32 → Int32 → Int32 → HS → Option HS} (hd : DOK D) (ha : a < qA D) (h2 : n < qL D (a + 1)) (hv : gI D 2 a ≤ K ∧ qF D a ≤ day) (hq : ∀ q ∈ qs, q.1 < qA D) (h : LI D day K qs A) :
    ∃ A', fn_X9_lawsOf_77 k38 (m + 1) x1 x2 (nI a) (nI n) (mk D A J) = fn_X9_lawsOf_77 k38 m x1 x2 (nI a) (nI (n + 1)) (mk D A' J) ∧ LI D day K (qs ++ [(a, n)]) A' ∧ ∀ c, c ≠ 20 → c ≠ 21 → c ≠ 22 → A' c = A c := by
  have ln := qL_lt hd ha h2
  obtain ⟨b1, b2, b3, b4, b5, b6, b7, b8, b9, b10⟩ := hd
  have la : qA D < 13 := (n_of_in b1).2
  have e4 : gI D 4 (a + 1) = nI (qL D (a + 1)) := (n_of_in (b6 (a + 1) (by omega))).1
  have l4 : qL D (a + 1) < 481 := (n_of_in (b6 (a + 1) (by omega))).2
  obtain ⟨k, lk, ek⟩ := n_ex (b8 n ln).1
  have qk : qK D n = k := by unfold qK; rw [ek, n_cl (by omega)]
  obtain ⟨i1, i2, i3⟩ := h k lk
  have f1 : vp_in (nI a + 1) 13 := by rw [n_lit, n_add, n_in (by omega)]; omega
  have f2 : (nI a + 1).toNatClampNeg = a + 1 := by rw [n_lit, n_add, n_cl (by omega)]
  have f3 : ¬ nI (qL D (a + 1)) ≤ nI n := by rw [n_le (by omega) (by omega)]; omega
  have f4 : vp_in (nI n) 481 := (n_in (by omega)).mpr (by omega)
  have f5 : (nI n).toNatClampNeg = n := n_cl (by omega)
  have f6 : vp_in (nI k) 156 := (n_in (by omega)).mpr lk
  have f7 : (nI k).toNatClampNeg = k := n_cl (by omega)
  have f8 : vp_in (nI a) 12 := (n_in (by omega)).mpr (by omega)
  have f9 : (nI a).toNatClampNeg = a := n_cl (by omega)
  have f10 : nI n + 1 = nI (n + 1) := by rw [n_lit, n_add]
  have f11 : gI D 3 a = nI (qF D a) := (n_of_in (b4 a ha)).1
  have l11 : qF D a < 1200 := (n_of_in (b4 a ha)).2
  have hX : fn_X9_lawsOf_145 k38 (fn_X9_lawsOf_77 k38 m) x1 x2 (nI a) (nI n) (nI k) (mk D (up2 A 22 k (A 22 k + 1)) J) = fn_X9_lawsOf_77 k38 m x1 x2 (nI a) (nI (n + 1)) (mk D (up2 (up2 (up2 A 22 k (A 22 k + 1)) 21 k (nI a)) 20 k (if gI D 6 n = 0 then nI n else -1)) J) := by
    unfold fn_X9_lawsOf_145 fn_X9_lawsOf_175 fn_X9_lawsOf_176
    simp only [f4, f5, f6, f7, f10, gd_T, bn_s, mk_s20, mk_s21, mk_lo (show 6 < 20 by decide)]
    by_cases c : gI D 6 n = 0
    · rw [cd_t c, if_pos c]
    · rw [cd_f c, if_neg c]
  cases hw : wf D day K k qs with
  | none =>
    rw [hw] at i2
    refine ⟨_, ?_, LI_step (B := up2 (up2 (up2 A 22 k (A 22 k + 1)) 21 k (nI a)) 20 k (if gI D 6 n = 0 then nI n else -1)) h qk hv (fun j hj => ?_) ?_ (fun _ => ?_) (fun z => ?_), fun c h1 h2 h3 => ?_⟩
    · rw [← hX]
      conv => lhs; unfold fn_X9_lawsOf_77
      simp only [f1, f2, f3, f4, f5, f6, f7, e4, ek, gd_T, cd_F, bn_s, mk_s22, mk_lo (show 4 < 20 by decide), mk_lo (show 5 < 20 by decide), mk_a (show 20 ≤ 22 by decide) (show 22 < 34 by decide), mk_a (show 20 ≤ 21 by decide) (show 21 < 34 by decide), up2_ne (show 21 ≠ 22 by decide)]
      exact cd_t i2
    · rw [up2_nk hj, up2_nk hj, up2_nk hj, up2_nk hj, up2_nk hj, up2_nk hj, up2_nk hj, up2_nk hj, up2_nk hj]; exact ⟨rfl, rfl, rfl⟩
    · rw [up2_ne (by decide), up2_ne (by decide), up2_eq]
    · rw [up2_ne (by decide), up2_eq, up2_eq]; exact ⟨rfl, rfl⟩
    · obtain ⟨b, z1, _⟩ := z; rw [hw] at z1; cases z1
    · rw [up2_ne h1, up2_ne h2, up2_ne h3]
  | some b =>
    rw [hw] at i2
    have i2 : A 21 k = nI b.1 := i2
    have lb : b.1 < qA D := hq b (wf_mem hw).1
    have f12 : gI D 3 b.1 = nI (qF D b.1) := (n_of_in (b4 _ lb)).1
    have l12 : qF D b.1 < 1200 := (n_of_in (b4 _ lb)).2
    have g1 : ¬ nI b.1 = -1 := n_neg1 (by omega)
    have g2 : vp_in (nI b.1) 12 := (n_in (by omega)).mpr (by omega)
    have g3 : (nI b.1).toNatClampNeg = b.1 := n_cl (by omega)
    have hY : fn_X9_lawsOf_77 k38 (m + 1) x1 x2 (nI a) (nI n) (mk D A J) = cd (nI (qF D b.1) ≤ nI (qF D a)) (fn_X9_lawsOf_145 k38 (fn_X9_lawsOf_77 k38 m) x1 x2 (nI a) (nI n) (nI k) (mk D (up2 A 22 k (A 22 k + 1)) J)) (fn_X9_lawsOf_77 k38 m x1 x2 (nI a) (nI (n + 1)) (mk D (up2 A 22 k (A 22 k + 1)) J)) := by
      conv => lhs; unfold fn_X9_lawsOf_77
      simp only [f1, f2, f3, f4, f5, f6, f7, f8, f9, f10, f11, f12, g1, g2, g3, i2, e4, ek, gd_T, cd_F, bn_s, mk_s22, mk_lo (show 4 < 20 by decide), mk_lo (show 5 < 20 by decide), mk_lo (show 3 < 20 by decide), mk_a (show 20 ≤ 22 by decide) (show 22 < 34 by decide), mk_a (show 20 ≤ 21 by decide) (show 21 < 34 by decide), up2_ne (show 21 ≠ 22 by decide), fn_X9_lawsOf_176]
    by_cases c : qF D b.1 ≤ qF D a
    · refine ⟨_, ?_, LI_step (B := up2 (up2 (up2 A 22 k (A 22 k + 1)) 21 k (nI a)) 20 k (if gI D 6 n = 0 then nI n else -1)) h qk hv (fun j hj => ?_) ?_ (fun _ => ?_) (fun z => ?_), fun c h1 h2 h3 => ?_⟩
      · rw [hY, cd_t (by rw [n_le (by omega) (by omega)]; exact c), hX]
      · rw [up2_nk hj, up2_nk hj, up2_nk hj, up2_nk hj, up2_nk hj, up2_nk hj, up2_nk hj, up2_nk hj, up2_nk hj]; exact ⟨rfl, rfl, rfl⟩
      · rw [up2_ne (by decide), up2_ne (by decide), up2_eq]
      · rw [up2_ne (by decide), up2_eq, up2_eq]; exact ⟨rfl, rfl⟩
      · obtain ⟨b', z1, z2⟩ := z; rw [hw] at z1; injection z1 with z1; subst z1; exact absurd c z2
      · rw [up2_ne h1, up2_ne h2, up2_ne h3]
    · refine ⟨_, ?_, LI_step (B := up2 A 22 k (A 22 k + 1)) h qk hv (fun j hj => ?_) up2_eq (fun z => ?_) (fun _ => ?_), fun c h1 h2 h3 => ?_⟩
      · rw [hY, cd_f (by rw [n_le (by omega) (by omega)]; exact c)]
      · rw [up2_nk hj, up2_nk hj, up2_nk hj]; exact ⟨rfl, rfl, rfl⟩
      · rcases z with z | ⟨b', z1, z2⟩
        · rw [hw] at z; cases z
        · rw [hw] at z1; injection z1 with z1; subst z1; exact absurd z2 c
      · rw [up2_ne (by decide), up2_ne (by decide)]; exact ⟨rfl, rfl⟩
      · rw [up2_ne h3]
theorem laws_77 {D : HS} {J : Nat → Int64} {day : Nat} {K x1 x2 : Int32} {a : Nat} {k38 : Int32 → Int32 → Int32 → HS → Option HS} (hd : DOK D) (ha : a < qA D) (hv : gI D 2 a ≤ K ∧ qF D a ≤ day) : ∀ (i n m : Nat) (qs : List (Nat × Nat)) (A : AA), n + i = qL D (a + 1) → qL D a ≤ n → i < m → (∀ q ∈ qs, q.1 < qA D) → LI D day K (qs ++ (List.range (n - qL D a)).map (fun i => (a, qL D a + i))) A →
    ∃ A', fn_X9_lawsOf_77 k38 m x1 x2 (nI a) (nI n) (mk D A J) = k38 x1 x2 (nI (a + 1)) (mk D A' J) ∧ LI D day K (qs ++ lns D a) A' ∧ ∀ c, c ≠ 20 → c ≠ 21 → c ≠ 22 → A' c = A c := by
  intro i
  induction i with
  | zero =>
    intro n m qs A e hn hm hq h
    obtain ⟨m, rfl⟩ : ∃ k, m = k + 1 := ⟨m - 1, by omega⟩
    have e : n = qL D (a + 1) := by omega
    subst e
    have la : qA D < 13 := (n_of_in hd.1).2
    have e4 : gI D 4 (a + 1) = nI (qL D (a + 1)) := (n_of_in (hd.2.2.2.2.2.1 (a + 1) (by omega))).1
    have f1 : vp_in (nI a + 1) 13 := by rw [n_lit, n_add, n_in (by omega)]; omega
    have f2 : (nI a + 1).toNatClampNeg = a + 1 := by rw [n_lit, n_add, n_cl (by omega)]
    have f10 : nI a + 1 = nI (a + 1) := by rw [n_lit, n_add]
    refine ⟨A, ?_, h, fun c _ _ _ => rfl⟩
    conv => lhs; unfold fn_X9_lawsOf_77
    rw [gd_t f1, f2, mk_lo (by decide), e4, cd_t (Int32.le_refl _)]
    unfold fn_X9_lawsOf_182
    rw [bn_s, f10]
  | succ i ih =>
    intro n m qs A e hn hm hq h
    obtain ⟨m, rfl⟩ : ∃ k, m = k + 1 := ⟨m - 1, by omega⟩
    have hq2 : ∀ q ∈ qs ++ (List.range (n - qL D a)).map (fun i => (a, qL D a + i)), q.1 < qA D := by
      intro q hh
      rcases List.mem_append.mp hh with hh | hh
      · exact hq q hh
      · obtain ⟨j, _, rfl⟩ := List.mem_map.mp hh; exact ha
    obtain ⟨A1, q1, q2, q3⟩ := laws_77_step (J := J) (x1 := x1) (x2 := x2) (m := m) (k38 := k38) hd ha (by omega : n < qL D (a + 1)) hv hq2 h
    obtain ⟨A2, r1, r2, r3⟩ := ih (n + 1) m qs A1 (by omega) (by omega) (by omega) hq (by
      rw [show n + 1 - qL D a = (n - qL D a) + 1 by omega, List.range_succ, List.map_append, ← List.append_assoc]
      rw [show (List.map (fun i => (a, qL D a + i)) [n - qL D a]) = [(a, n)] by simp; omega]
      exact q2)
    exact ⟨A2, q1.trans r1, r2, fun c h1 h2 h3 => (r3 c h1 h2 h3).trans (q3 c h1 h2 h3)⟩
theorem laws_38 {D : HS} {J : Nat → Int64} {day : Nat} {K : Int32} (hd : DOK D) (hday : day < 2147483648) : ∀ (i a m : Nat) (A : AA), a + i = qA D → i < m → LI D day K ((List.range a).flatMap (lns D)) A →
    ∃ A', fn_X9_lawsOf_38 m (nI day) K (nI a) (mk D A J) = some (mk D A' J) ∧ LI D day K (alls D) A' ∧ ∀ c, c ≠ 20 → c ≠ 21 → c ≠ 22 → A' c = A c := by
  have la : qA D < 13 := (n_of_in hd.1).2
  have e7 : gI D 0 7 = nI (qA D) := (n_of_in hd.1).1
  intro i
  induction i with
  | zero =>
    intro a m A e hm h
    obtain ⟨m, rfl⟩ : ∃ k, m = k + 1 := ⟨m - 1, by omega⟩
    have e : a = qA D := by omega
    subst e
    refine ⟨A, ?_, h, fun c _ _ _ => rfl⟩
    conv => lhs; unfold fn_X9_lawsOf_38
    rw [mk_lo (by decide), e7, cd_t (Int32.le_refl _)]
  | succ i ih =>
    intro a m A e hm h
    obtain ⟨m, rfl⟩ : ∃ k, m = k + 1 := ⟨m - 1, by omega⟩
    have ha : a < qA D := by omega
    have f1 : ¬ nI (qA D) ≤ nI a := by rw [n_le (by omega) (by omega)]; omega
    have f8 : vp_in (nI a) 12 := (n_in (by omega)).mpr (by omega)
    have f8' : vp_in (nI a) 13 := (n_in (by omega)).mpr (by omega)
    have f9 : (nI a).toNatClampNeg = a := n_cl (by omega)
    have f10 : nI a + 1 = nI (a + 1) := by rw [n_lit, n_add]
    have f11 : gI D 3 a = nI (qF D a) := (n_of_in (hd.2.2.2.1 a ha)).1
    have l11 : qF D a < 1200 := (n_of_in (hd.2.2.2.1 a ha)).2
    have f12 : gI D 4 a = nI (qL D a) := (n_of_in (hd.2.2.2.2.2.1 a (by omega))).1
    have hm1 := (hd.2.2.2.2.2.2.1 a ha).1
    have hm2 := (n_of_in (hd.2.2.2.2.2.1 (a + 1) (by omega))).2
    have hm2 : qL D (a + 1) < 481 := hm2
    have eR : (List.range (a + 1)).flatMap (lns D) = (List.range a).flatMap (lns D) ++ lns D a := by rw [List.range_succ, List.flatMap_append]; simp
    have hno : ¬ (gI D 2 a ≤ K ∧ qF D a ≤ day) → LI D day K ((List.range (a + 1)).flatMap (lns D)) A := by
      intro hn k hk
      obtain ⟨w1, w2, w3⟩ := wf_skip (D := D) (day := day) (K := K) (k := k) (qs := (List.range a).flatMap (lns D)) (rs := lns D a) (fun q hq z => hn (by have := (mem_lns.mp hq).1; rw [← this]; exact z.2))
      rw [eR, w1, w2]
      exact h k hk
    by_cases c1 : K < gI D 2 a
    · obtain ⟨A2, r1, r2, r3⟩ := ih (a + 1) m A (by omega) (by omega) (hno (fun z => absurd z.1 (by simpa using c1)))
      refine ⟨A2, ?_, r2, r3⟩
      rw [← r1]
      conv => lhs; unfold fn_X9_lawsOf_38
      unfold fn_X9_lawsOf_182
      simp only [mk_lo (show 0 < 20 by decide), mk_lo (show 2 < 20 by decide), e7, f1, f8, f9, cd_F, gd_T, bn_s, f10]
      exact cd_t c1
    have c1' : gI D 2 a ≤ K := by simpa using c1
    by_cases c2 : qF D a ≤ day
    · obtain ⟨A1, q1, q2, q3⟩ := laws_77 (J := J) (x1 := nI day) (x2 := K) (k38 := fn_X9_lawsOf_38 m) hd ha ⟨c1', c2⟩ (qL D (a + 1) - qL D a) (qL D a) hFuel ((List.range a).flatMap (lns D)) A (by omega) (Nat.le_refl _) (by unfold hFuel; omega) (fun q hq => by
        obtain ⟨b, hb, hq⟩ := List.mem_flatMap.mp hq
        rw [(mem_lns.mp hq).1]
        have := List.mem_range.mp hb
        omega) (by rw [Nat.sub_self]; simpa using h)
      obtain ⟨A2, r1, r2, r3⟩ := ih (a + 1) m A1 (by omega) (by omega) (by rw [eR]; exact q2)
      refine ⟨A2, ?_, r2, fun c h1 h2 h3 => (r3 c h1 h2 h3).trans (q3 c h1 h2 h3)⟩
      rw [← r1, ← q1]
      conv => lhs; unfold fn_X9_lawsOf_38
      have f13 : nI (qF D a) ≤ nI day := by rw [n_le (by omega) (by omega)]; exact c2
      simp only [mk_lo (show 0 < 20 by decide), mk_lo (show 2 < 20 by decide), mk_lo (show 3 < 20 by decide), mk_lo (show 4 < 20 by decide), e7, f1, f8, f8', f9, f11, f12, f13, c1, cd_F, cd_T, gd_T, bn_s]
    · obtain ⟨A2, r1, r2, r3⟩ := ih (a + 1) m A (by omega) (by omega) (hno (fun z => c2 z.2))
      refine ⟨A2, ?_, r2, r3⟩
      rw [← r1]
      conv => lhs; unfold fn_X9_lawsOf_38
      unfold fn_X9_lawsOf_182
      have f13 : ¬ nI (qF D a) ≤ nI day := by rw [n_le (by omega) (by omega)]; exact c2
      simp only [mk_lo (show 0 < 20 by decide), mk_lo (show 2 < 20 by decide), mk_lo (show 3 < 20 by decide), e7, f1, f8, f9, f10, f11, f13, c1, cd_F, gd_T, bn_s]
theorem lawsOf_M {D : HS} {A : AA} {J : Nat → Int64} {day : Nat} {K : Int32} (hd : DOK D) (hday : day < 2147483648) : ∃ A', fn_X9_lawsOf (nI day) K (mk D A J) = some (mk D A' J) ∧ LI D day K (alls D) A' ∧ ∀ c, c ≠ 20 → c ≠ 21 → c ≠ 22 → A' c = A c := by
  obtain ⟨A1, q1, q2, _, q3⟩ := laws_2 (D := D) (J := J) (x1 := nI day) (x2 := K) 156 0 hFuel A rfl (by decide)
  obtain ⟨A2, r1, r2, r3⟩ := laws_38 (J := J) (day := day) (K := K) hd hday (qA D) 0 hFuel A1 (by omega) (by have := (n_of_in hd.1).2; unfold hFuel; unfold qA; omega) (by
    intro k hk
    obtain ⟨u1, u2, u3⟩ := q2 k (by omega) hk
    rw [u1, u2, u3]
    exact ⟨rfl, rfl, rfl⟩)
  exact ⟨A2, q1.trans r1, r2, fun c h1 h2 h3 => (r3 c h1 h2 h3).trans (q3 c h1 h2 h3)⟩
