/-! the end of a line: its key, the semicolon, the list -/
def CB (l : Nat) (S0 S : HS) : Prop := (∀ c, c < l → c ≠ 2 → c ≠ 3 → gI S c = gI S0 c) ∧ (∀ c, c < l → gR S c = gR S0 c ∧ gJ S c = gJ S0 c ∧ gK S c = gK S0 c ∧ gN S c = gN S0 c) ∧ l ≤ gZ S
def INVF (l : Nat) (S0 S : HS) : Prop := hC S ∧ hFr S ∧ CB l S0 S
def MB (F : Nat) (D M : HS) : Prop := (∀ c, c < 5 ∨ 13 < c → c ≠ 0 → gI M c = gI D c) ∧ (∀ c j, c ≠ 0 → c ≠ 12 → j < F → gI M c j = gI D c j) ∧ (∀ j, j < 8 * F → gI M 12 j = gI D 12 j) ∧ (∀ j, j < 18 ∨ 26 < j ∨ j = 24 ∨ j = 25 → gI M 0 j = gI D 0 j) ∧ gJ M = gJ D
theorem MB.o {F n : Nat} {D M M' : HS} (h : MB F D M) (h2 : MO n M M') (hn : F ≤ n) : MB F D M' := ⟨fun c a1 a2 => (h2.1 c a1 a2).trans (h.1 c a1 a2), fun c j a1 a2 a3 => (h2.2.1 c j a1 a2 (by omega)).trans (h.2.1 c j a1 a2 a3), fun j a => (h2.2.2.1 j (Or.inl (by omega))).trans (h.2.2.1 j a), fun j a => (h2.2.2.2.1 j (by omega)).trans (h.2.2.2.1 j a), h2.2.2.2.2.trans h.2.2.2.2⟩
def LINES (F l : Nat) (xs : List Nat) (S M : HS) : Prop := ∀ i, i < xs.length → LRel S M (xs.getD i 0) (F + i) ∧ LOK M (F + i) ∧ l < xs.getD i 0
def SEEN (F cnt : Nat) (S M : HS) : Prop := ∀ k, k < 156 → (gI S 3 k = 0 ∨ gI S 3 k = 1) ∧ (gI S 3 k = 1 ↔ ∃ i, i < cnt ∧ qK M (F + i) = k)
def INV (F l : Nat) (xs : List Nat) (S0 D S M : HS) : Prop := INVF l S0 S ∧ MB F D M ∧ JG S l 80 xs ∧ (∀ d, gR S l 1 = some d → l < d) ∧ LINES F l xs S M ∧ SEEN F xs.length S M ∧ gI M 0 26 = nI (F + xs.length)
/-- lines that are done stay as they are -/
theorem LRel_tr {S S' M M' : HS} {o n : Nat} (hS : ∀ c, gK S c = 3 ∨ gK S c = 21 → gI S' c = gI S c ∧ gR S' c = gR S c ∧ gK S' c = gK S c ∧ gN S' c = gN S c) (hM : ∀ c, 5 ≤ c → c ≤ 13 → c ≠ 12 → gI M' c n = gI M c n) (h12 : ∀ j, j < 8 → gI M' 12 (8 * n + j) = gI M 12 (8 * n + j)) (hL : LOK M n) (h : LRel S M o n) : LRel S' M' o n := by
  obtain ⟨a1, a2, a3, a4, a5, a6, a7, a8⟩ := h
  obtain ⟨e1, e2, e3, e4⟩ := hS o (Or.inl a2)
  have qk : qK M' n = qK M n := by unfold qK; rw [hM 5 (by omega) (by omega) (by decide)]
  unfold LRel
  rw [e1, e2, e3, qk, hM 6 (by omega) (by omega) (by decide), hM 7 (by omega) (by omega) (by decide), hM 8 (by omega) (by omega) (by decide), hM 9 (by omega) (by omega) (by decide), hM 10 (by omega) (by omega) (by decide), hM 11 (by omega) (by omega) (by decide), hM 13 (by omega) (by omega) (by decide)]
  refine ⟨a1, a2, a3, a4, a5, a6, a7, fun z => ⟨(a8 z).1, (a8 z).2.1, fun y => ⟨((a8 z).2.2 y).1, ?_⟩⟩⟩
  obtain ⟨d, b1, b2, b3, b4, b5⟩ := ((a8 z).2.2 y).2
  obtain ⟨f1, f2, f3, f4⟩ := hS d (Or.inr b3)
  have h8 : Int32.toNatClampNeg (gI M 13 n) < 9 := (n_of_in ((hL.2.2.2 z).2.2.2.2 y).2.1).2
  exact ⟨d, b1, b2, by rw [f3]; exact b3, by rw [f4]; exact b4, fun j hj => by rw [f1, h12 j (by omega)]; exact b5 j hj⟩
theorem LOK_tr {M M' : HS} {n : Nat} (hM : ∀ c, 5 ≤ c → c ≤ 13 → c ≠ 12 → gI M' c n = gI M c n) (h12 : ∀ j, j < 8 → gI M' 12 (8 * n + j) = gI M 12 (8 * n + j)) (h : LOK M n) : LOK M' n := by
  have qk : qK M' n = qK M n := by unfold qK; rw [hM 5 (by omega) (by omega) (by decide)]
  have h0 := h
  unfold LOK at *
  rw [qk, hM 5 (by omega) (by omega) (by decide), hM 6 (by omega) (by omega) (by decide), hM 7 (by omega) (by omega) (by decide), hM 10 (by omega) (by omega) (by decide), hM 11 (by omega) (by omega) (by decide), hM 13 (by omega) (by omega) (by decide)]
  refine ⟨h.1, h.2.1, h.2.2.1, fun z => ?_⟩
  obtain ⟨p1, p2, p3, p4, p5⟩ := h.2.2.2 z
  refine ⟨p1, p2, p3, p4, fun y => ⟨(p5 y).1, (p5 y).2.1, fun j hj => ?_⟩⟩
  have h8 : Int32.toNatClampNeg (gI M 13 n) < 9 := (n_of_in (p5 y).2.1).2
  rw [h12 j (by omega)]; exact (p5 y).2.2 j hj
/-- the reference's search for the key -/
theorem dup_275 {n : Nat} {p : Int32} (hn : n < 481) : ∀ (i k m : Nat) (M : HS), k + i = n → i < m → ∃ M', fn_X9_line_275 m p (nI n) (nI k) M = some M' ∧ (∀ c, c ≠ 0 → gI M' c = gI M c) ∧ (∀ j, j ≠ 22 → j ≠ 23 → j ≠ 26 → gI M' 0 j = gI M 0 j) ∧ gJ M' = gJ M ∧ gI M' 0 26 = gI M 0 26 + 1 ∧ (gI M 0 22 ≠ 0 → gI M' 0 22 = gI M 0 22 ∧ gI M' 0 23 = gI M 0 23) ∧ (gI M 0 22 = 0 → (∃ q, k ≤ q ∧ q < n ∧ gI M 5 q = gI M 5 n) → gI M' 0 22 = 3 ∧ gI M' 0 23 = p) ∧ (gI M 0 22 = 0 → (∀ q, k ≤ q → q < n → gI M 5 q ≠ gI M 5 n) → gI M' 0 22 = 0 ∧ gI M' 0 23 = gI M 0 23) := by
  intro i
  induction i with
  | zero =>
    intro k m M e hm
    obtain ⟨m, rfl⟩ : ∃ k, m = k + 1 := ⟨m - 1, by omega⟩
    have e : k = n := by omega
    subst e
    refine ⟨sI M 0 26 (gI M 0 26 + 1), ?_, fun c hc => sI_ne hc, fun j _ _ h3 => sI_nk h3, rfl, sI_eq, fun _ => ⟨sI_nk (by decide), sI_nk (by decide)⟩, fun _ z => ?_, fun z _ => ⟨(sI_nk (by decide)).trans z, sI_nk (by decide)⟩⟩
    · conv => lhs; unfold fn_X9_line_275
      rw [cd_t (Int32.le_refl _), bn_s]
    · obtain ⟨q, q1, q2, _⟩ := z; omega
  | succ i ih =>
    intro k m M e hm
    obtain ⟨m, rfl⟩ : ∃ k, m = k + 1 := ⟨m - 1, by omega⟩
    have hu : fn_X9_line_275 (m + 1) p (nI n) (nI k) M = cd (gI M 5 k = gI M 5 n) (bn (fn_X9_wrong 3 p M) (fun S4 => fn_X9_line_275 m p (nI n) (nI (k + 1)) S4)) (fn_X9_line_275 m p (nI n) (nI (k + 1)) M) := by
      conv => lhs; unfold fn_X9_line_275
      unfold fn_X9_line_303
      rw [cd_f (by rw [n_le (by omega) (by omega)]; omega), gd_t ((n_in (by omega)).mpr (by omega)), gd_t ((n_in (by omega)).mpr (by omega)), n_cl (by omega), n_cl (by omega)]
      simp only [bn_s]
      rw [show nI k + 1 = nI (k + 1) by rw [n_lit, n_add]]
    rw [hu]
    by_cases c : gI M 5 k = gI M 5 n
    · obtain ⟨M1, v1, v2, v3, v4, v5⟩ := wrongM (M := M) (k := 3) (x := p) (by decide)
      obtain ⟨M', q1, q2, q3, q4, q5, q6, q7, q8⟩ := ih (k + 1) m M1 (by omega) (by omega)
      have hw : ∀ j, j ≠ 22 → j ≠ 23 → gI M1 0 j = gI M 0 j := fun j h1 h2 => by
        unfold fn_X9_wrong at v1
        by_cases cz : gI M 0 22 = 0
        · rw [cd_t cz, bn_s, bn_s] at v1
          injection v1 with v1
          rw [← v1, sI_nk h2, sI_nk h1]
        · rw [v5 cz]
      refine ⟨M', by rw [cd_t c, v1, bn_s, q1], fun x hx => (q2 x hx).trans (v2.1 x hx), fun j h1 h2 h3 => (q3 j h1 h2 h3).trans (hw j h1 h2), q4.trans v2.2.2, by rw [q5, hw 26 (by decide) (by decide)], fun z => ?_, fun z _ => ?_, fun z hq => absurd c (hq k (Nat.le_refl _) (by omega))⟩
      · have := v5 z
        subst this
        exact q6 z
      · have := q6 v3
        rw [this.1, this.2]; exact v4 z
    · obtain ⟨M', q1, q2, q3, q4, q5, q6, q7, q8⟩ := ih (k + 1) m M (by omega) (by omega)
      refine ⟨M', by rw [cd_f c, q1], q2, q3, q4, q5, q6, fun z hq => q7 z ?_, fun z hq => q8 z (fun q h1 h2 => hq q (by omega) h2)⟩
      obtain ⟨q, h1, h2, h3⟩ := hq
      refine ⟨q, ?_, h2, h3⟩
      by_cases eq : q = k
      · rw [eq] at h3; exact absurd h3 c
      · omega
/-- the class's key, taken down -/
theorem chk_C {kk : Nat} {x : Int32} {S : HS} (lk : kk < 1000) : fn_X4_checkKey (nI kk) x S = if kk < 156 then (cd (gI S 3 kk = 0) (some (sI S 3 kk 1)) (bn (fn_X4_refuse 3 x S) (fun S2 => some (sI S2 3 kk 1)))) else some S := by
  unfold fn_X4_checkKey fn_X4_checkKey_13 fn_X4_checkKey_29
  by_cases c : kk < 156
  · rw [if_pos c, cd_f (n_ge0 (by omega)), cd_t (by rw [n_lt (by omega) (by omega)]; exact c), gd_t ((n_in (by omega)).mpr c), n_cl (by omega)]
    simp only [gd_p ((n_in (by omega : kk < 2147483648)).mpr c), bn_s]
  · rw [if_neg c, cd_f (n_ge0 (by omega)), cd_f (by rw [n_lt (by omega) (by omega)]; exact c)]
/-- objects made since, the rest as it was -/
def FZ (S S' : HS) : Prop := (∀ c, c < gZ S → c ≠ 2 → gI S' c = gI S c) ∧ (∀ c, c < gZ S → gR S' c = gR S c ∧ gJ S' c = gJ S c ∧ gK S' c = gK S c ∧ gN S' c = gN S c) ∧ gZ S ≤ gZ S' ∧ (hC S → hC S') ∧ (hFr S → hFr S')
theorem FZ.tr {S S' S'' : HS} (h : FZ S S') (h2 : FZ S' S'') : FZ S S'' := by
  obtain ⟨a1, a2, a3, a4, a5⟩ := h
  obtain ⟨b1, b2, b3, b4, b5⟩ := h2
  refine ⟨fun c h1 h2 => (b1 c (by omega) h2).trans (a1 c h1 h2), fun c h1 => ?_, by omega, fun h => b4 (a4 h), fun h => b5 (a5 h)⟩
  obtain ⟨p1, p2, p3, p4⟩ := a2 c h1
  obtain ⟨q1, q2, q3, q4⟩ := b2 c (by omega)
  exact ⟨q1.trans p1, q2.trans p2, q3.trans p3, q4.trans p4⟩
theorem C2.z {S S' : HS} (h : C2 S S') : FZ S S' := by
  obtain ⟨a1, a2, a3, a4, a5, a6, a7⟩ := h
  refine ⟨fun c _ h2 => a1 c h2, fun c _ => ⟨by rw [a3], by rw [a4], by rw [a5], by rw [a6]⟩, by rw [a7]; exact Nat.le_refl _, fun h => ?_, fun h => ?_⟩
  · unfold hC at *; rw [a3, a5, a6, a7]; exact h
  · unfold hFr at *; rw [a5, a7]; exact h
theorem CO.z {o e : Nat} {S S0 S' : HS} (h : CO o e S S') (h0 : FZ S0 S) (ho : gZ S0 ≤ o) (he : gZ S0 ≤ e) : FZ S0 S' := by
  obtain ⟨a1, a2, a3, a4, a5, a6, a7⟩ := h
  obtain ⟨b1, b2, b3, b4, b5⟩ := h0
  refine ⟨fun c h1 h2 => (a1 c h2 (by omega) (by omega)).trans (b1 c h1 h2), fun c h1 => by rw [a3, a4, a5, a6]; exact b2 c h1, by rw [a7]; exact b3, fun h => ?_, fun h => ?_⟩
  · have := b4 h; unfold hC at *; rw [a3, a5, a6, a7]; exact this
  · have := b5 h; unfold hFr at *; rw [a5, a7]; exact this
theorem INVF_z {l : Nat} {S0 S S' : HS} (h : INVF l S0 S) (h2 : FZ S S') (hl : l < gZ S) : INVF l S0 S' := by
  obtain ⟨h1, h3, a1, a2, a3⟩ := h
  obtain ⟨b1, b2, b3, b4, b5⟩ := h2
  refine ⟨b4 h1, b5 h3, fun c c1 c2 c3 => (b1 c (by omega) c2).trans (a1 c c1 c2 c3), fun c c1 => ?_, by omega⟩
  obtain ⟨p1, p2, p3, p4⟩ := a2 c c1
  obtain ⟨q1, q2, q3, q4⟩ := b2 c (by omega)
  exact ⟨q1.trans p1, q2.trans p2, q3.trans p3, q4.trans p4⟩
theorem INVF_3 {l k : Nat} {v : Int32} {S0 S : HS} (h : INVF l S0 S) : INVF l S0 (sI S 3 k v) := by
  obtain ⟨h1, h3, a1, a2, a3⟩ := h
  exact ⟨hC_sI h1, h3, fun c c1 c2 c3 => (sI_ne c3).trans (a1 c c1 c2 c3), a2, a3⟩
theorem INVF_fa {l : Nat} {S0 S S' : HS} (h : INVF l S0 S) (h2 : FA l S S') (hl : l < gZ S) (hd : ∀ d, gR S l 1 = some d → l < d) : INVF l S0 S' := by
  obtain ⟨h1, h3, a1, a2, a3⟩ := h
  obtain ⟨f1, f2, f3, f4, f5, f6, f7, f8, f9⟩ := h2
  refine ⟨f8 h1, f9 h3, fun c c1 c2 c3 => (f1 c (by omega) (by omega)).trans (a1 c c1 c2 c3), fun c c1 => ?_, by omega⟩
  obtain ⟨p1, p2, p3, p4⟩ := a2 c c1
  exact ⟨(f2 c (by omega) (by omega) (fun z => by have := hd c z; omega)).trans p1, (f3 c (by omega)).trans p2, (f4 c (by omega)).trans p3, (f5 c (by omega)).trans p4⟩
theorem JG_z {l M : Nat} {xs : List Nat} {S S' : HS} (hfr : hFr S) (h : JG S l M xs) (h2 : FZ S S') (hl : l < gZ S) (hl2 : l ≠ 2) : JG S' l M xs := by
  refine JG_ext hfr h (by rw [(h2.2.1 l hl).2.2.1]; exact h.1) (by rw [h2.1 l hl hl2]) (by rw [(h2.2.1 l hl).1]) (fun c hc => ⟨(h2.2.1 c hc).2.2.1, (h2.2.1 c hc).2.2.2⟩) (fun d hd => (h2.2.1 d (lt_Z hfr (JG_k h d hd).1 (by decide))).1)
theorem tail_iter {b : Nat → Nat} {N F l cnt : Nat} {xs : List Nat} {S0 D S M S3 M3 : HS} {o so nm ca sl m : Nat} {x3 x : Int32} {k15 : Nat → Int32 → Nat → Nat → HS → Option (Option Nat × HS)} (hl : 65 ≤ l) (hlz : l < gZ S) (hI : INV F l xs S0 D S M) (hc : xs.length = cnt) (lc : cnt < 40) (hF : F + 40 ≤ 480) (hz : FZ S S3) (hMO : MO (F + cnt) M M3) (ho : gZ S ≤ o) (ko : gK S3 o = 3) (o0 : gI S3 o 0 = nI so) (lso : so < 6) (o4 : gI S3 o 4 = nI nm) (lnm : nm < 256) (hp : PZ S3 M3 b N) (hok : gI M3 0 22 = 0 → nm < 26 ∧ gI M3 5 (F + cnt) = nI (26 * so + nm) ∧ LRel S3 M3 o (F + cnt) ∧ LOK M3 (F + cnt)) (hcap : ca + 1 ≤ 130 ∧ sl + 80 ≤ 4100) (hx3 : x3 = nI m) :
    ∃ S' M', fn_X4_read_80 k15 l x3 x (some o) ca sl S3 = k15 l (nI (m + 1)) (ca + 1) (sl + 80) S' ∧ bn (fn_X9_line_264 (nI F) x (nI (F + cnt)) M3) (fun S1 => fn_X9_wants 59 S1) = some M' ∧ ((PX S' M' b N ∧ INV F l (xs ++ [o]) S0 D S' M' ∧ l < gZ S') ∨ (PF S' M' b N ∧ INVF l S0 S' ∧ MB F D M')) := by
  obtain ⟨i1, i2, i3, i4, i5, i6, i7⟩ := hI
  have hfr := i1.2.1
  have hkey : fn_X2_key o S3 = some (nI (26 * so + nm), S3) := by
    unfold fn_X2_key
    rw [gd_t ko, gd_t ko, o0, o4, n_lit, n_mul, n_add, Nat.mul_comm]
  have hF3 : INVF l S0 S3 := INVF_z i1 hz hlz
  have hB3 : MB F D M3 := i2.o hMO (by omega)
  have l3 : l < gZ S3 := by have := hz.2.2.1; omega
  have hJ3 : JG S3 l 80 xs := JG_z hfr i3 hz hlz (by omega)
  have hd3 : ∀ d, gR S3 l 1 = some d → l < d := fun d hd => i4 d (by rw [← (hz.2.1 l hlz).1]; exact hd)
  -- the list takes the line, whatever was wrong
  have hadd : ∀ T : HS, INVF l S0 T → l < gZ T → JG T l 80 xs → (∀ d, gR T l 1 = some d → l < d) → gK T o = 3 → gK T l = 0 → ∃ T', fl_add l o 80 T = some T' ∧ JG T' l 80 (xs ++ [o]) ∧ FA l T T' ∧ INVF l S0 T' ∧ l < gZ T' ∧ (∀ d, gR T' l 1 = some d → l < d) ∧ C2 T T' = C2 T T' := by
    intro T h1 h2 h3 h4 h5 h6
    obtain ⟨T', t1, t2, t3⟩ := add_J (e := o) h3 (Or.inr (Or.inl h5)) (by decide) (by decide) (by omega) h2 h1.1.1 h1.2.1
    refine ⟨T', t1, t2, t3, INVF_fa h1 t3 h2 h4, by have := t3.2.2.2.2.2.1; omega, fun d hd => ?_, rfl⟩
    rcases t3.2.2.2.2.2.2.1 with q | q
    · exact h4 d (by rw [← q]; exact hd)
    · rw [q] at hd; injection hd with hd; omega
  have h106 : ∀ T T' : HS, fl_add l o 80 T = some T' → gK T l = 0 → (bn (some o) fun c7 => gd (gK T l = 0) (gd (ca + 1 ≤ 130 ∧ sl + 80 ≤ 4100) (bn (fl_add l c7 80 T) fun S9 => fn_X4_read_106 k15 l x3 (ca + 1) (sl + 80) S9))) = k15 l (nI (m + 1)) (ca + 1) (sl + 80) T' := by
    intro T T' h1 h2
    unfold fn_X4_read_106
    rw [bn_s, gd_t h2, gd_t hcap, h1, bn_s, bn_s, hx3, show nI m + 1 = nI (m + 1) by rw [n_lit, n_add]]
  have hC : fn_X4_read_80 k15 l x3 x (some o) ca sl S3 = bn (fn_X4_checkKey (nI (26 * so + nm)) x S3) (fun S5 => bn (fn_X4_takeSign 59 S5) (fun S6 => bn (some o) (fun c7 => gd (gK S6 l = 0) (gd (ca + 1 ≤ 130 ∧ sl + 80 ≤ 4100) (bn (fl_add l c7 80 S6) (fun S9 => fn_X4_read_106 k15 l x3 (ca + 1) (sl + 80) S9)))))) := by
    unfold fn_X4_read_80
    rw [bn_s, gd_t ko, hkey, bn2_s]
  rw [hC, chk_C (by omega)]
  -- behind a fault
  have hbad : ∀ (T M4 : HS), PF T M4 b N → INVF l S0 T → l < gZ T → JG T l 80 xs → (∀ d, gR T l 1 = some d → l < d) → gK T o = 3 → MB F D M4 → ∃ S' M', (bn (fn_X4_takeSign 59 T) fun S6 => bn (some o) fun c7 => gd (gK S6 l = 0) (gd (ca + 1 ≤ 130 ∧ sl + 80 ≤ 4100) (bn (fl_add l c7 80 S6) fun S9 => fn_X4_read_106 k15 l x3 (ca + 1) (sl + 80) S9))) = k15 l (nI (m + 1)) (ca + 1) (sl + 80) S' ∧ fn_X9_wants 59 M4 = some M' ∧ ((PX S' M' b N ∧ INV F l (xs ++ [o]) S0 D S' M' ∧ l < gZ S') ∨ (PF S' M' b N ∧ INVF l S0 S' ∧ MB F D M')) := by
    intro T M4 g1 g2 g3 g4 g5 g6 g7
    obtain ⟨T1, u1, u2, u3, u4⟩ := PF_sgn (c := 59) (by decide) g1
    obtain ⟨T2, v1, v2, v3, v4, v5, v6, _⟩ := hadd T1 (INVF_z g2 u2.z g3) (by rw [u2.2.2.2.2.2.2]; exact g3) (JG_z g2.2.1 g4 u2.z g3 (by omega)) (by rw [u2.2.2.1]; exact g5) (by rw [u2.2.2.2.2.1]; exact g6) (by rw [u2.2.2.2.2.1]; exact g4.1)
    have ez : gZ T1 = gZ T := u2.2.2.2.2.2.2
    refine ⟨T2, M4, ?_, u4, Or.inr ⟨⟨?_, u3.2.1, ?_, u3.2.2.2.1, ?_⟩, v4, g7⟩⟩
    · rw [show fn_X4_takeSign 59 T = some T1 from u1, bn_s]
      exact h106 T1 T2 v1 (by rw [u2.2.2.2.2.1]; exact g4.1)
    · obtain ⟨st, q⟩ := u3.1
      refine ⟨st, ?_⟩
      unfold CT CL at *
      rw [v3.1 1 (by omega) (by omega), v3.1 2 (by omega) (by omega)]; exact q
    · rw [v3.1 2 (by omega) (by omega)]; exact u3.2.2.1
    · rw [v3.1 2 (by omega) (by omega)]; exact u3.2.2.2.2
  rcases hp with hx | hf
  · have hx0 := hx
    obtain ⟨st, a1, a2, a3, a4, a5⟩ := hx
    obtain ⟨k1, k2, k3, k4⟩ := hok a4
    have lk : 26 * so + nm < 156 := by omega
    have qkn : qK M3 (F + cnt) = 26 * so + nm := by unfold qK; rw [k2, n_cl (by omega)]
    obtain ⟨M4, d1, d2, d3, d4, d5, d6, d7, d8⟩ := dup_275 (n := F + cnt) (p := x) (by omega) cnt F hFuel M3 rfl (by unfold hFuel; omega)
    have h26 : gI M3 0 26 = nI (F + cnt) := by rw [hMO.2.2.2.1 26 (by omega), i7, hc]
    have h264 : fn_X9_line_264 (nI F) x (nI (F + cnt)) M3 = some M4 := by
      unfold fn_X9_line_264
      rw [cd_t a4]; exact d1
    have hB4 : MB F D M4 := ⟨fun c z1 z2 => (d2 c z2).trans (hB3.1 c z1 z2), fun c j z1 z2 z3 => by rw [d2 c z1]; exact hB3.2.1 c j z1 z2 z3, fun j z => by rw [d2 12 (by decide)]; exact hB3.2.2.1 j z, fun j z => (d3 j (by omega) (by omega) (by omega)).trans (hB3.2.2.2.1 j z), d4.trans hB3.2.2.2.2⟩
    rw [if_pos lk, h264, bn_s]
    have seen3 : gI S3 3 = gI S 3 := hz.1 3 (by omega) (by decide)
    have key_old : ∀ i, i < cnt → gI M3 5 (F + i) = gI M 5 (F + i) := fun i hi => hMO.2.1 5 (F + i) (by decide) (by decide) (by omega)
    have key_in : ∀ i, i < cnt → vp_in (gI M 5 (F + i)) 156 := fun i hi => (i5 i (by omega)).2.1.1
    have hseen := (i6 (26 * so + nm) lk)
    rw [hc] at hseen
    have hdup : (∃ q, F ≤ q ∧ q < F + cnt ∧ gI M3 5 q = gI M3 5 (F + cnt)) ↔ ∃ i, i < cnt ∧ qK M (F + i) = 26 * so + nm := by
      constructor
      · rintro ⟨q, q1, q2, q3⟩
        refine ⟨q - F, by omega, ?_⟩
        have := key_old (q - F) (by omega)
        rw [show F + (q - F) = q by omega] at this
        unfold qK
        rw [show F + (q - F) = q by omega, ← this, q3, k2, n_cl (by omega)]
      · rintro ⟨i, q1, q2⟩
        refine ⟨F + i, by omega, by omega, ?_⟩
        rw [key_old i q1, k2, (n_of_in (key_in i q1)).1]
        unfold qK at q2
        rw [q2]
    by_cases c : gI S3 3 (26 * so + nm) = 0
    · have hno : ∀ q, F ≤ q → q < F + cnt → gI M3 5 q ≠ gI M3 5 (F + cnt) := fun q q1 q2 q3 => by
        have := hseen.2.mpr (hdup.mp ⟨q, q1, q2, q3⟩)
        rw [seen3] at c
        rw [c] at this; exact absurd this (by decide)
      obtain ⟨e1, e2⟩ := d8 a4 hno
      rw [cd_t c, bn_s]
      -- the key is new
      have hPX : PX (sI S3 3 (26 * so + nm) 1) M4 b N := by
        refine ⟨st, ?_, ⟨?_, ?_⟩, ?_, e1, ?_⟩
        · unfold CT CL at *; rw [sI_ne (by decide), sI_ne (by decide)]; exact a1
        · have := a2.1; unfold ML at *; rw [d2 1 (by decide), d3 17 (by decide) (by decide) (by decide)]; exact this
        · rw [d3 19 (by decide) (by decide) (by decide), d3 18 (by decide) (by decide) (by decide), d3 20 (by decide) (by decide) (by decide), d3 21 (by decide) (by decide) (by decide)]; exact a2.2
        · rw [sI_ne (by decide)]; exact a3
        · rw [sI_ne (by decide), e2]; exact a5
      obtain ⟨T1, M5, u1, u2, u3, u4, u5⟩ := sgn2 (c := 59) (by decide) (Or.inl hPX)
      have g2 : INVF l S0 (sI S3 3 (26 * so + nm) 1) := INVF_3 hF3
      have g4 : JG (sI S3 3 (26 * so + nm) 1) l 80 xs := by
        refine ⟨hJ3.1, by rw [sI_ne (by omega)]; exact hJ3.2.1, hJ3.2.2⟩
      rcases u5 with u5 | u5
      · obtain ⟨T2, v1, v2, v3, v4, v5, v6, _⟩ := hadd T1 (INVF_z g2 u3.z l3) (by rw [u3.2.2.2.2.2.2]; exact l3) (JG_z g2.2.1 g4 u3.z l3 (by omega)) (by rw [u3.2.2.1]; exact hd3) (by rw [u3.2.2.2.2.1]; exact ko) (by rw [u3.2.2.2.2.1]; exact hJ3.1)
        have hT : ∀ c, c < gZ S3 → c ≠ 2 → c ≠ 3 → c ≠ l → gI T2 c = gI S3 c := fun c z1 z2 z3 z4 => by
          rw [v3.1 c (by rw [u3.2.2.2.2.2.2]; exact z1) z4, u3.1 c z2, sI_ne z3]
        have hK : ∀ c, gK S3 c = 3 ∨ gK S3 c = 21 → gI T2 c = gI S3 c ∧ gR T2 c = gR S3 c ∧ gK T2 c = gK S3 c ∧ gN T2 c = gN S3 c := by
          intro c hkc
          have cz : c < gZ S3 := by
            rcases hkc with h | h
            · exact lt_Z hF3.2.1 h (by decide)
            · exact lt_Z hF3.2.1 h (by decide)
          have cz1 : c < gZ T1 := by rw [u3.2.2.2.2.2.2]; exact cz
          have c2 : c ≠ 2 := by
            intro z; rw [z, hCk hF3.1 2 (by decide) (κ := 5) rfl] at hkc; omega
          have c3 : c ≠ 3 := by
            intro z; rw [z, hCk hF3.1 3 (by decide) (κ := 23) rfl] at hkc; omega
          have cl : c ≠ l := by
            intro z; rw [z, hJ3.1] at hkc; omega
          refine ⟨hT c cz c2 c3 cl, ?_, ?_, ?_⟩
          · rw [v3.2.1 c cz1 cl (fun z => by
              have z : gR S3 l 1 = some c := by rw [u3.2.2.1] at z; exact z
              have := (JG_k hJ3 c z).1; omega), u3.2.2.1]; rfl
          · rw [v3.2.2.2.1 c cz1, u3.2.2.2.2.1]; rfl
          · rw [v3.2.2.2.2.1 c cz1, u3.2.2.2.2.2.1]; rfl
        have hM5 : ∀ c, c ≠ 0 → gI M5 c = gI M3 c := fun c hc => (u4.1 c hc).trans (d2 c hc)
        have hB5 : MB F D M5 := hB4.o u4.o (Nat.le_refl F)
        refine ⟨T2, M5, ?_, u2, Or.inl ⟨?_, ⟨v4, hB5, v2, v6, ?_, ?_, ?_⟩, v5⟩⟩
        · rw [show fn_X4_takeSign 59 (sI S3 3 (26 * so + nm) 1) = some T1 from u1, bn_s]
          exact h106 T1 T2 v1 (by rw [u3.2.2.2.2.1]; exact hJ3.1)
        · obtain ⟨st5, b1, b2, b3, b4, b5⟩ := u5
          have ez : gZ T1 = gZ S3 := u3.2.2.2.2.2.2
          refine ⟨st5, ?_, b2, ?_, b4, ?_⟩
          · unfold CT CL at *
            rw [v3.1 1 (by omega) (by omega), v3.1 2 (by omega) (by omega)]; exact b1
          · rw [v3.1 2 (by omega) (by omega)]; exact b3
          · rw [v3.1 2 (by omega) (by omega)]; exact b5
        · intro i hi
          rw [List.length_append, List.length_singleton, hc] at hi
          by_cases ci : i = cnt
          · have eg : (xs ++ [o]).getD i 0 = o := by
              rw [List.getD_eq_getElem?_getD, List.getElem?_append_right (by omega), show i - xs.length = 0 by omega]; rfl
            rw [eg, ci]
            refine ⟨LRel_tr hK (fun c z1 z2 _ => by rw [hM5 c (by omega)]) (fun j _ => by rw [hM5 12 (by decide)]) k4 k3, LOK_tr (fun c z1 z2 _ => by rw [hM5 c (by omega)]) (fun j _ => by rw [hM5 12 (by decide)]) k4, by omega⟩
          · have eg : (xs ++ [o]).getD i 0 = xs.getD i 0 := by
              rw [List.getD_eq_getElem?_getD, List.getElem?_append_left (by omega), ← List.getD_eq_getElem?_getD]
            rw [eg]
            obtain ⟨j1, j2, j3⟩ := i5 i (by omega)
            have hmo : ∀ c, 5 ≤ c → c ≤ 13 → c ≠ 12 → gI M5 c (F + i) = gI M c (F + i) := fun c z1 z2 z3 => by rw [hM5 c (by omega), hMO.2.1 c (F + i) (by omega) z3 (by omega)]
            have hm12 : ∀ j, j < 8 → gI M5 12 (8 * (F + i) + j) = gI M 12 (8 * (F + i) + j) := fun j hj => by rw [hM5 12 (by decide), hMO.2.2.1 _ (by omega)]
            refine ⟨LRel_tr (S := S) (fun c hkc => ?_) hmo hm12 j2 j1, LOK_tr hmo hm12 j2, j3⟩
            have cz : c < gZ S := by
              rcases hkc with h | h
              · exact lt_Z hfr h (by decide)
              · exact lt_Z hfr h (by decide)
            have c2 : c ≠ 2 := by
              intro z; rw [z, hCk i1.1 2 (by decide) (κ := 5) rfl] at hkc; omega
            obtain ⟨p1, p2, p3, p4⟩ := hz.2.1 c cz
            obtain ⟨r1, r2, r3, r4⟩ := hK c (by rw [p3]; exact hkc)
            exact ⟨r1.trans (hz.1 c cz c2), r2.trans p1, r3.trans p3, r4.trans p4⟩
        · intro k hk
          have e3 : gI T2 3 k = if k = 26 * so + nm then 1 else gI S 3 k := by
            have ez : gZ T1 = gZ S3 := u3.2.2.2.2.2.2
            rw [v3.1 3 (by omega) (by omega), u3.1 3 (by decide), gI_sI, seen3]; simp only [true_and]
          have eq : ∀ i, i < cnt → qK M5 (F + i) = qK M (F + i) := fun i hi => by unfold qK; rw [hM5 5 (by decide), key_old i hi]
          have eqn : qK M5 (F + cnt) = 26 * so + nm := by unfold qK; rw [hM5 5 (by decide), k2, n_cl (by omega)]
          have hk6 := i6 k hk
          rw [hc] at hk6
          rw [e3, List.length_append, List.length_singleton, hc]
          by_cases ck : k = 26 * so + nm
          · rw [if_pos ck]
            exact ⟨Or.inr rfl, fun _ => ⟨cnt, by omega, by rw [eqn, ck]⟩, fun _ => rfl⟩
          · rw [if_neg ck]
            refine ⟨hk6.1, fun z => ?_, fun z => ?_⟩
            · obtain ⟨i, z1, z2⟩ := hk6.2.mp z
              exact ⟨i, by omega, by rw [eq i z1]; exact z2⟩
            · obtain ⟨i, z1, z2⟩ := z
              by_cases ci : i = cnt
              · rw [ci, eqn] at z2; exact absurd z2.symm ck
              · exact hk6.2.mpr ⟨i, by omega, by rw [← eq i (by omega)]; exact z2⟩
        · rw [u4.2.1 26 (by omega), d5, h26, n_lit, n_add, List.length_append, List.length_singleton, hc]; rfl
      · obtain ⟨T2, v1, v2, v3, v4, v5, v6, _⟩ := hadd T1 (INVF_z g2 u3.z l3) (by rw [u3.2.2.2.2.2.2]; exact l3) (JG_z g2.2.1 g4 u3.z l3 (by omega)) (by rw [u3.2.2.1]; exact hd3) (by rw [u3.2.2.2.2.1]; exact ko) (by rw [u3.2.2.2.2.1]; exact hJ3.1)
        have ez : gZ T1 = gZ S3 := u3.2.2.2.2.2.2
        refine ⟨T2, M5, ?_, u2, Or.inr ⟨⟨?_, u5.2.1, ?_, u5.2.2.2.1, ?_⟩, v4, hB4.o u4.o (Nat.le_refl F)⟩⟩
        · rw [show fn_X4_takeSign 59 (sI S3 3 (26 * so + nm) 1) = some T1 from u1, bn_s]
          exact h106 T1 T2 v1 (by rw [u3.2.2.2.2.1]; exact hJ3.1)
        · obtain ⟨st5, q⟩ := u5.1
          refine ⟨st5, ?_⟩
          unfold CT CL at *
          rw [v3.1 1 (by omega) (by omega), v3.1 2 (by omega) (by omega)]; exact q
        · rw [v3.1 2 (by omega) (by omega)]; exact u5.2.2.1
        · rw [v3.1 2 (by omega) (by omega)]; exact u5.2.2.2.2
    · -- the key again
      have hs1 : gI S 3 (26 * so + nm) = 1 := by rw [seen3] at c; exact hseen.1.resolve_left c
      obtain ⟨e1, e2⟩ := d7 a4 (hdup.mpr (hseen.2.mp hs1))
      obtain ⟨S5, w1, w2, w3, w4, w5, w6⟩ := refF (S := S3) (b := b) (N := N) (k := 3) (x := x) (by decide)
      rw [cd_f c, w1, bn_s, bn_s]
      have hpf : PF (sI S5 3 (26 * so + nm) 1) M4 b N := by
        refine PF_sI (by decide) (by decide) ⟨⟨st, w3 st a1⟩, ?_, (w5 a3).1.trans e1.symm, by rw [e1]; decide, (w5 a3).2.trans e2.symm⟩
        have := a2.1; unfold ML at *; rw [d2 1 (by decide), d3 17 (by decide) (by decide) (by decide)]; exact this
      have l5 : l < gZ S5 := by rw [w2.2.2.2.2.2.2]; exact l3
      have hJ5 := JG_z hF3.2.1 hJ3 w2.z l3 (by omega)
      exact hbad _ M4 hpf (INVF_3 (INVF_z hF3 w2.z l3)) l5 ⟨hJ5.1, by rw [sI_ne (by omega)]; exact hJ5.2.1, hJ5.2.2⟩ (by show ∀ d, gR S5 l 1 = some d → l < d; rw [w2.2.2.1]; exact hd3) (by show gK S5 o = 3; rw [w2.2.2.2.2.1]; exact ko) hB4
  · have h264 : fn_X9_line_264 (nI F) x (nI (F + cnt)) M3 = some M3 := by
      unfold fn_X9_line_264
      rw [cd_f hf.2.2.2.1]
    rw [h264, bn_s]
    have hJs : ∀ v, JG (sI S3 3 (26 * so + nm) v) l 80 xs := fun v => ⟨hJ3.1, by rw [sI_ne (by omega)]; exact hJ3.2.1, hJ3.2.2⟩
    by_cases lk : 26 * so + nm < 156
    · rw [if_pos lk]
      have hgo := hbad (sI S3 3 (26 * so + nm) 1) M3 (PF_sI (by decide) (by decide) hf) (INVF_3 hF3) l3 (hJs 1) hd3 ko hB3
      by_cases c : gI S3 3 (26 * so + nm) = 0
      · rw [cd_t c, bn_s]; exact hgo
      · rw [cd_f c, PF_r (by decide) hf, bn_s, bn_s]; exact hgo
    · rw [if_neg lk, bn_s]
      exact hbad S3 M3 hf hF3 l3 hJ3 hd3 ko hB3
