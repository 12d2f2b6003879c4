/-! frames -/
theorem JG_keep {S S' : HS} {c M : Nat} {xs : List Nat} (hk : gK S' = gK S) (hn : gN S' = gN S) (h2 : gI S' c = gI S c) (h1 : gR S' c = gR S c) (hR : ∀ d, 65 ≤ d → gR S' d = gR S d) (h : JG S c M xs) : JG S' c M xs := by
  obtain ⟨a, b, q⟩ := h
  refine ⟨by rw [hk]; exact a, by rw [h2]; exact b, ?_⟩
  rcases q with ⟨q1, q2⟩ | ⟨d, q1, q2, q3, q4, q5, q6, q7, q8⟩
  · exact Or.inl ⟨by rw [h1]; exact q1, q2⟩
  · refine Or.inr ⟨d, by rw [h1]; exact q1, q2, by rw [hk]; exact q3, by rw [hn]; exact q4, by rw [hn]; exact q5, by rw [hn]; exact q6, ?_, by rw [hR d q2]; exact q8⟩
    unfold hEl
    rw [hn, hR d q2, hk]
    exact q7
theorem LRel_keep {S S' SM : HS} {o n : Nat} (hk : gK S' = gK S) (hn : gN S' = gN S) (hI : ∀ d, 65 ≤ d → gI S' d = gI S d) (hR : ∀ d, 65 ≤ d → gR S' d = gR S d) (h : LRel S SM o n) : LRel S' SM o n := by
  have h65 := h.1
  unfold LRel at *
  rw [hk, hn, hI o h65, hR o h65]
  obtain ⟨a1, a2, a3, a4, a5, a6, a7, a8⟩ := h
  refine ⟨a1, a2, a3, a4, a5, a6, a7, fun z => ⟨(a8 z).1, (a8 z).2.1, fun y => ⟨((a8 z).2.2 y).1, ?_⟩⟩⟩
  obtain ⟨d, b1, b2, b3, b4, b5⟩ := ((a8 z).2.2 y).2
  exact ⟨d, b1, b2, b3, b4, by rw [hI d b2]; exact b5⟩
theorem ARel_keep {S S' SM : HS} {oL : Nat → Nat} {o n : Nat} (hk : gK S' = gK S) (hn : gN S' = gN S) (h4 : gR S' 4 = gR S 4) (h5 : gR S' 5 = gR S 5) (hI : ∀ d, 65 ≤ d → gI S' d = gI S d) (hR : ∀ d, 65 ≤ d → gR S' d = gR S d) (h : ARel S SM oL o n) : ARel S' SM oL o n := by
  have h65 := h.1
  unfold ARel at *
  rw [hk, hn, hI o h65, hR o h65, h4, h5]
  obtain ⟨a1, a2, a3, a4, a5, l, b1, b2, b3, b4, d, b5, b6, b7, b8⟩ := h
  refine ⟨a1, a2, a3, a4, a5, l, b1, b2, b3, by rw [hI l b2]; exact b4, d, b5, b6, b7, ?_⟩
  rw [hR l b2, hR d b5]
  exact b8
theorem NRel_keep {S S' SM : HS} {o n : Nat} (hk : gK S' = gK S) (hI : ∀ d, 65 ≤ d → gI S' d = gI S d) (h : NRel S SM o n) : NRel S' SM o n := by
  have h65 := h.1
  unfold NRel at *
  rw [hk, hI o h65]
  exact h
theorem DRel_keep {S S' SM : HS} {LA NL : List Nat} {oA oL oN : Nat → Nat} (hc : hC S') (hk : gK S' = gK S) (hn : gN S' = gN S) (hz : gZ S' = gZ S) (i16 : gI S' 0 16 = gI S 0 16) (i4 : gI S' 4 = gI S 4) (i5 : gI S' 5 = gI S 5) (i6 : gI S' 6 = gI S 6) (h4 : gR S' 4 = gR S 4) (h5 : gR S' 5 = gR S 5) (hI : ∀ d, 65 ≤ d → gI S' d = gI S d) (hR : ∀ d, 65 ≤ d → gR S' d = gR S d) (h : DRel S SM LA NL oA oL oN) : DRel S' SM LA NL oA oL oN := by
  obtain ⟨a1, a2, a3, a4, a5, a6, a7, a8, a9, a10, a12, a13⟩ := h
  refine ⟨hc, ?_, a3, a4, JG_keep hk hn i4 h4 hR a5, JG_keep hk hn i5 h5 hR a6, by rw [h4, h5]; exact a7, fun a ha => ARel_keep hk hn h4 h5 hI hR (a8 a ha), fun a ha => LRel_keep hk hn hI hR (a9 a ha), fun a ha => NRel_keep hk hI (a10 a ha), by rw [i16]; exact a12, by rw [i6]; exact a13⟩
  intro c hcc
  rw [hk]
  exact a2 c (by omega)
/-- the reference's data are the same -/
def MS (S S' : HS) : Prop := (∀ c, 2 ≤ c → c < 20 → gI S' c = gI S c) ∧ gI S' 0 7 = gI S 0 7 ∧ gI S' 0 28 = gI S 0 28 ∧ gI S' 0 34 = gI S 0 34
theorem MS.rf (S : HS) : MS S S := ⟨fun _ _ _ => rfl, rfl, rfl, rfl⟩
theorem MS.tr {S S' S'' : HS} (h : MS S S') (h2 : MS S' S'') : MS S S'' := ⟨fun c a b => (h2.1 c a b).trans (h.1 c a b), h2.2.1.trans h.2.1, h2.2.2.1.trans h.2.2.1, h2.2.2.2.trans h.2.2.2⟩
theorem MS.q {S S' : HS} (h : MS S S') : qA S' = qA S ∧ qP S' = qP S ∧ qN S' = qN S ∧ qF S' = qF S ∧ qL S' = qL S ∧ qK S' = qK S := by
  obtain ⟨h1, h3, h4, h5⟩ := h
  refine ⟨?_, ?_, ?_, ?_, ?_, ?_⟩
  · unfold qA; rw [h3]
  · unfold qP; rw [h4]
  · unfold qN; rw [h5]
  · funext a; unfold qF; rw [h1 3 (by omega) (by omega)]
  · funext a; unfold qL; rw [h1 4 (by omega) (by omega)]
  · funext a; unfold qK; rw [h1 5 (by omega) (by omega)]
theorem MS.wins {S S' : HS} (h : MS S S') : wins S' = wins S ∧ wMax S' = wMax S ∧ wLast S' = wLast S ∧ lns S' = lns S := by
  obtain ⟨q1, q2, q3, q4, q5, q6⟩ := h.q
  have e2 := h.1 2 (by omega) (by omega)
  have el : lns S' = lns S := by funext a; unfold lns; rw [q5]
  have em : wMax S' = wMax S := by funext a b c d e; unfold wMax; rw [q6, q4, e2]
  have ew : wLast S' = wLast S := by funext a b c d e; unfold wLast; rw [q6, q4, e2]
  refine ⟨?_, em, ew, el⟩
  funext a b c
  unfold Jvm.Pilot.CPayScalesLaw_law_r6840_b7057e.wins
  rw [q1, el, em]
theorem MS.DOK {S S' : HS} (h : MS S S') (hd : DOK S) : DOK S' := by
  obtain ⟨q1, q2, q3, q4, q5, q6⟩ := h.q
  obtain ⟨h1, h3, h4, h5⟩ := h
  unfold Jvm.Pilot.CPayScalesLaw_law_r6840_b7057e.DOK LOK NOK at *
  simp only [q1, q2, q3, q5, q6, h3, h4, h5, h1 3 (by omega) (by omega), h1 4 (by omega) (by omega), h1 5 (by omega) (by omega), h1 6 (by omega) (by omega), h1 7 (by omega) (by omega), h1 10 (by omega) (by omega), h1 11 (by omega) (by omega), h1 12 (by omega) (by omega), h1 13 (by omega) (by omega), h1 14 (by omega) (by omega), h1 15 (by omega) (by omega), h1 16 (by omega) (by omega), h1 17 (by omega) (by omega), h1 19 (by omega) (by omega)]
  exact hd
theorem MS.DRel {SC S S' : HS} {LA NL : List Nat} {oA oL oN : Nat → Nat} (h : MS S S') (hd : DRel SC S LA NL oA oL oN) : DRel SC S' LA NL oA oL oN := by
  have hD := h.DOK hd.2.2.1
  obtain ⟨w1, w2, w3, w4⟩ := h.wins
  obtain ⟨q1, q2, q3, q4, q5, q6⟩ := h.q
  obtain ⟨h1, h3, h4, h5⟩ := h
  obtain ⟨a1, a2, a3, a4, a5, a6, a7, a8, a9, a10, a12, a13⟩ := hd
  unfold ORel at a4
  unfold ARel at a8
  unfold LRel at a9
  unfold NRel at a10
  unfold Jvm.Pilot.CPayScalesLaw_law_r6840_b7057e.DRel ORel ARel LRel NRel
  simp only [w1, w3, w4, q1, q2, q3, q4, q5, q6, h3, h4, h5, h1 2 (by omega) (by omega), h1 3 (by omega) (by omega), h1 4 (by omega) (by omega), h1 5 (by omega) (by omega), h1 6 (by omega) (by omega), h1 7 (by omega) (by omega), h1 8 (by omega) (by omega), h1 9 (by omega) (by omega), h1 10 (by omega) (by omega), h1 11 (by omega) (by omega), h1 12 (by omega) (by omega), h1 13 (by omega) (by omega), h1 14 (by omega) (by omega), h1 15 (by omega) (by omega), h1 16 (by omega) (by omega), h1 17 (by omega) (by omega), h1 18 (by omega) (by omega), h1 19 (by omega) (by omega)]
  exact ⟨a1, a2, hD, a4, a5, a6, a7, a8, a9, a10, a12, a13⟩
theorem MS_s0 {S : HS} {k : Nat} {v : Int32} (h : k ≠ 7 ∧ k ≠ 28 ∧ k ≠ 34) : MS S (sI S 0 k v) := by
  refine ⟨fun c a b => ?_, ?_, ?_, ?_⟩
  · funext j; rw [gI_sI, if_neg (by omega)]
  all_goals rw [gI_sI, if_neg (by omega)]
theorem MS_sI {S : HS} {c k : Nat} {v : Int32} (h : c = 1 ∨ 20 ≤ c) : MS S (sI S c k v) := by
  refine ⟨fun c' a b => ?_, ?_, ?_, ?_⟩
  · funext j; rw [gI_sI, if_neg (by omega)]
  all_goals rw [gI_sI, if_neg (by omega)]
theorem MS_sJ {S : HS} {c k : Nat} {v : Int64} : MS S (sJ S c k v) := ⟨fun _ _ _ => rfl, rfl, rfl, rfl⟩
theorem MS_sZ {S : HS} {z : Nat} : MS S (sZ S z) := ⟨fun _ _ _ => rfl, rfl, rfl, rfl⟩
theorem RR_sZ {k : Nat} {SC SM : HS} {z : Nat} (h : RR k SC SM) : RR k SC (sZ SM z) := by
  obtain ⟨e, LA, NL, oA, oL, oN, d⟩ := h
  exact ⟨e, LA, NL, oA, oL, oN, MS_sZ.DRel d⟩
theorem LIi_of {f g : HS → Option (Int32 × HS)} (h : ∀ SC SM : HS, RR 0 SC SM → ∃ (r : Int32) (Z1 Z2 : HS), f SC = some (r, Z1) ∧ g SM = some (r, Z2) ∧ RR 0 Z1 Z2) : LIi RR f g := by
  intro k SC SM _ hr
  obtain ⟨r, Z1, Z2, h1, h2, h3⟩ := h SC SM hr
  refine ⟨r, Z1, h1, fun z _ => ?_⟩
  obtain ⟨r', Z1', Z2', h1', h2', h3'⟩ := h SC (sZ SM z) (RR_sZ hr)
  rw [h1] at h1'
  injection h1' with e
  injection e with e1 e2
  subst e1; subst e2
  exact ⟨Z2', h2', h3'⟩
theorem LIl_of {f g : HS → Option (Int64 × HS)} (h : ∀ SC SM : HS, RR 0 SC SM → ∃ (r : Int64) (Z1 Z2 : HS), f SC = some (r, Z1) ∧ g SM = some (r, Z2) ∧ RR 0 Z1 Z2) : LIl RR f g := by
  intro k SC SM _ hr
  obtain ⟨r, Z1, Z2, h1, h2, h3⟩ := h SC SM hr
  refine ⟨r, Z1, h1, fun z _ => ?_⟩
  obtain ⟨r', Z1', Z2', h1', h2', h3'⟩ := h SC (sZ SM z) (RR_sZ hr)
  rw [h1] at h1'
  injection h1' with e
  injection e with e1 e2
  subst e1; subst e2
  exact ⟨Z2', h2', h3'⟩
/-- the rest of the reference is the same -/
def ES (S S' : HS) : Prop := gI S' 0 3 = gI S 0 3 ∧ gI S' 0 2 = gI S 0 2 ∧ gI S' 0 7 = gI S 0 7 ∧ gI S' 0 24 = gI S 0 24 ∧ gI S' 0 25 = gI S 0 25 ∧ gI S' 0 54 = gI S 0 54 ∧ gI S' 0 55 = gI S 0 55 ∧ gI S' 0 57 = gI S 0 57 ∧ gI S' 0 59 = gI S 0 59 ∧ gI S' 1 = gI S 1 ∧ gI S' 4 = gI S 4 ∧ gI S' 36 = gI S 36 ∧ gI S' 37 = gI S 37 ∧ gI S' 39 = gI S 39 ∧ gI S' 40 = gI S 40 ∧ gJ S' 35 = gJ S 35 ∧ gJ S' 38 = gJ S 38
theorem ES.ERel {SC S S' : HS} (h : ES S S') (e : ERel SC S) : ERel SC S' := by
  obtain ⟨h0, h1, h2, h3, h4, h5, h6, h7, h8, h9, h10, h11, h12, h13, h14, h15, h16⟩ := h
  unfold Jvm.Pilot.CPayScalesLaw_law_r6840_b7057e.ERel EOK qA at *
  simp only [h0, h1, h2, h3, h4, h5, h6, h7, h8, h9, h10, h11, h12, h13, h14, h15, h16]
  exact e
/-- the rest of the class is the same -/
def EC (S S' : HS) : Prop := gI S' 0 13 = gI S 0 13 ∧ gI S' 0 14 = gI S 0 14 ∧ gI S' 0 15 = gI S 0 15 ∧ gI S' 0 17 = gI S 0 17 ∧ gI S' 1 = gI S 1 ∧ gI S' 2 6 = gI S 2 6 ∧ gI S' 2 7 = gI S 2 7 ∧ gI S' 16 = gI S 16 ∧ gI S' 18 = gI S 18 ∧ gI S' 20 = gI S 20 ∧ gJ S' = gJ S
theorem EC.ERel {S S' SM : HS} (h : EC S S') (e : ERel S SM) : ERel S' SM := by
  obtain ⟨h0, h1, h2, h3, h4, h5, h6, h7, h8, h9, h10⟩ := h
  unfold Jvm.Pilot.CPayScalesLaw_law_r6840_b7057e.ERel at *
  simp only [h0, h1, h2, h3, h4, h5, h6, h7, h8, h9, h10]
  exact e
theorem sI_ne {S : HS} {c k b : Nat} {v : Int32} (h : b ≠ c) : gI (sI S c k v) b = gI S b := by
  funext j; rw [gI_sI, if_neg (by omega)]
theorem sI_nk {S : HS} {c k b j : Nat} {v : Int32} (h : j ≠ k) : gI (sI S c k v) b j = gI S b j := by
  rw [gI_sI, if_neg (by omega)]
theorem sI_eq {S : HS} {c k : Nat} {v : Int32} : gI (sI S c k v) c k = v := by
  rw [gI_sI, if_pos ⟨rfl, rfl⟩]
theorem sJ_ne {S : HS} {c k b : Nat} {v : Int64} (h : b ≠ c) : gJ (sJ S c k v) b = gJ S b := by
  funext j; rw [gJ_sJ, if_neg (by omega)]
theorem sJ_nk {S : HS} {c k b j : Nat} {v : Int64} (h : j ≠ k) : gJ (sJ S c k v) b j = gJ S b j := by
  rw [gJ_sJ, if_neg (by omega)]
theorem sJ_eq {S : HS} {c k : Nat} {v : Int64} : gJ (sJ S c k v) c k = v := by
  rw [gJ_sJ, if_pos ⟨rfl, rfl⟩]
theorem sR_ne {S : HS} {c k b : Nat} {v : Option Nat} (h : b ≠ c) : gR (sR S c k v) b = gR S b := by
  funext j; rw [gR_sR, if_neg (by omega)]
theorem ES_t {S : HS} : ES S (sI S 0 0 0) := by
  refine ⟨sI_nk (by decide), sI_nk (by decide), sI_nk (by decide), sI_nk (by decide), sI_nk (by decide), sI_nk (by decide), sI_nk (by decide), sI_nk (by decide), sI_nk (by decide), sI_ne (by decide), sI_ne (by decide), sI_ne (by decide), sI_ne (by decide), sI_ne (by decide), sI_ne (by decide), rfl, rfl⟩
theorem RR_t {k : Nat} {SC SM : HS} (h : RR k SC SM) : RR k SC (sI SM 0 0 0) := by
  obtain ⟨e, LA, NL, oA, oL, oN, d⟩ := h
  exact ⟨ES_t.ERel e, LA, NL, oA, oL, oN, (MS_s0 (by decide)).DRel d⟩
/-- hC after writes that leave it -/
theorem hC_sI {S : HS} {c k : Nat} {v : Int32} (h : hC S) : hC (sI S c k v) := h
theorem hC_sJ {S : HS} {c k : Nat} {v : Int64} (h : hC S) : hC (sJ S c k v) := h
theorem ARel_M {S S' SC : HS} (h : ∀ c, 2 ≤ c → c < 14 → gI S' c = gI S c) : ARel SC S' = ARel SC S := by
  funext a b c; unfold ARel qL; simp only [h 2 (by omega) (by omega), h 3 (by omega) (by omega), h 4 (by omega) (by omega)]
theorem LRel_M {S S' SC : HS} (h : ∀ c, 2 ≤ c → c < 14 → gI S' c = gI S c) : LRel SC S' = LRel SC S := by
  funext a b; unfold LRel qK; simp only [h 5 (by omega) (by omega), h 6 (by omega) (by omega), h 7 (by omega) (by omega), h 8 (by omega) (by omega), h 9 (by omega) (by omega), h 10 (by omega) (by omega), h 11 (by omega) (by omega), h 12 (by omega) (by omega), h 13 (by omega) (by omega)]
theorem NRel_M {S S' SC : HS} (h : ∀ c, 15 ≤ c → c < 20 → gI S' c = gI S c) : NRel SC S' = NRel SC S := by
  funext a b; unfold NRel; simp only [h 15 (by omega) (by omega), h 16 (by omega) (by omega), h 17 (by omega) (by omega), h 18 (by omega) (by omega), h 19 (by omega) (by omega)]
