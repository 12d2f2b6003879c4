/-! what an agreement leaves of the old -/
theorem ORel_same {D D' : HS} {LA NL : List Nat} {a : Nat} (h : ORel D LA NL) (hd : DOK D) (ha : qA D = a) (ha' : qA D' = a) (hF : ∀ j, j < a → qF D' j = qF D j) (hL : ∀ j, j ≤ a → qL D' j = qL D j) (hK : ∀ n, n < qL D a → qK D' n = qK D n) (h2 : ∀ j, j < a → gI D' 2 j = gI D 2 j) (hN : gI D' 0 34 = gI D 0 34) (h17 : gI D' 17 = gI D 17) : ORel D' LA NL := by
  obtain ⟨o1, o2, o3, o4, o5, o6⟩ := h
  have hmem : ∀ b ∈ LA, b < a := fun b hb => by have := List.mem_range.mp (o1.mem_iff.mp hb); omega
  have qn : qN D' = qN D := by unfold qN; rw [hN]
  have hln : ∀ j, j < a → lns D' j = lns D j := fun j hj => by unfold lns; rw [hL j (by omega), hL (j + 1) (by omega)]
  have hflat : ∀ l : List Nat, (∀ b ∈ l, b < a) → l.flatMap (lns D') = l.flatMap (lns D) := by
    intro l
    induction l with
    | nil => intro _; rw [List.flatMap_nil, List.flatMap_nil]
    | cons b l ih =>
      intro hl
      rw [List.flatMap_cons, List.flatMap_cons, hln b (hl b (List.mem_cons_self ..)), ih (fun c hc => hl c (List.mem_cons_of_mem _ hc))]
  have hold : ∀ l : List Nat, (∀ b ∈ l, b < a) → ∀ q ∈ l.flatMap (lns D), qF D' q.1 = qF D q.1 ∧ gI D' 2 q.1 = gI D 2 q.1 ∧ qK D' q.2 = qK D q.2 := by
    intro l hl q hq
    obtain ⟨b, hb, hq⟩ := List.mem_flatMap.mp hq
    obtain ⟨q1, q2, q3⟩ := lns_mem hq
    have lb := hl b hb
    have hup := qL_up hd (a - (b + 1)) (b + 1) (by omega)
    rw [show b + 1 + (a - (b + 1)) = a by omega] at hup
    rw [q1]
    exact ⟨hF b lb, h2 b lb, hK q.2 (by omega)⟩
  have hr : ∀ b ∈ List.range a, b < a := fun b hb => List.mem_range.mp hb
  refine ⟨by rw [ha', ← ha]; exact o1, ?_, fun day K k => ?_, by rw [qn]; exact o4, ?_, fun d => ?_⟩
  · refine o2.imp_of_mem (fun hx hy z => ?_)
    rw [hF _ (hmem _ hx), hF _ (hmem _ hy)]; exact z
  · have o3 := o3 day K k
    unfold wins at *
    rw [ha', hflat LA hmem, hflat (List.range a) hr, wl_old (D := D) _ _ (hold LA hmem), wm_old (D := D) _ _ (hold _ hr) (fun b hb => by cases hb)]
    rw [ha] at o3
    exact o3
  · refine o5.imp (fun z => ?_)
    rw [h17]; exact z
  · have o6 := o6 d
    rw [qn]
    refine Eq.trans (List.filter_congr (fun j _ => ?_)) (o6.trans (List.filter_congr (fun j _ => ?_)))
    · rw [h17]
    · rw [h17]
theorem qL_40 {D : HS} (hd : DOK D) : ∀ a, a ≤ qA D → qL D a ≤ 40 * a := by
  intro a
  induction a with
  | zero => intro _; unfold qL; rw [hd.2.2.2.2.1]; decide
  | succ a ih =>
    intro h
    have h1 := ih (by omega)
    have h2 := (hd.2.2.2.2.2.2.1 a (by omega)).2
    omega
theorem agree_old {SC SM S' M' : HS} {LA NL : List Nat} {oA oL oN : Nat → Nat} {a F : Nat} (d : DRel SC SM LA NL oA oL oN) (ha : qA SM = a) (hF : qL SM a = F) (hM5 : ∀ c j, 5 ≤ c → c ≤ 13 → c ≠ 12 → j < F → gI M' c j = gI SM c j) (h12 : ∀ j, j < 8 * F → gI M' 12 j = gI SM 12 j) (h2 : ∀ j, j < a → gI M' 2 j = gI SM 2 j) (h3 : ∀ j, j < a → gI M' 3 j = gI SM 3 j) (h4 : ∀ j, j ≤ a → gI M' 4 j = gI SM 4 j) (h14 : ∀ c, 14 ≤ c → c < 20 → gI M' c = gI SM c) (e28 : gI M' 0 28 = gI SM 0 28) (hx : EX SC S') (n4 : ∀ d, gR S' 4 1 = some d → gR SC 4 1 = some d ∨ gZ SC ≤ d) (n5 : ∀ d, gR S' 5 1 = some d → gR SC 5 1 = some d ∨ gZ SC ≤ d) :
    (∀ (oL' : Nat → Nat) a', (∀ n, n < F → oL' n = oL n) → a' < a → ARel S' M' oL' (oA a') a') ∧ (∀ n, n < F → LRel S' M' (oL n) n ∧ LOK M' n) ∧ (∀ k, k < qN SM → NRel S' M' (oN k) k ∧ NOK M' k) := by
  obtain ⟨a1, a2, a3, a4, a5, a6, a7, a8, a9, a10, a12, a13⟩ := d
  have k4 := fun d hd => (JG_k a5 d hd).1
  have k5 := fun d hd => (JG_k a6 d hd).1
  have hq : ∀ j, j ≤ a → qL M' j = qL SM j := fun j hj => by unfold qL; rw [h4 j hj]
  refine ⟨fun oL' a' ho ha' => ?_, fun n hn => ?_, fun k hk => ?_⟩
  · obtain ⟨b1, b2, b3, b4, b5, l, c1, c2, c3, c4, dd, c5, c6, c7, c8⟩ := ARel_ext (S' := S') a2 k4 k5 n4 n5 hx (a8 a' (by omega))
    refine ⟨b1, b2, b3, by rw [h3 a' ha']; exact b4, by rw [h2 a' ha']; exact b5, l, c1, c2, c3, by rw [hq a' (by omega), hq (a' + 1) (by omega)]; exact c4, dd, c5, c6, c7, fun n h1 h2 => ?_⟩
    rw [hq a' (by omega)] at h1 ⊢
    rw [hq (a' + 1) (by omega)] at h2 ⊢
    have := qL_lt a3 (show a' < qA SM by omega) h2
    rw [ho n (by rw [ha, hF] at this; exact this)]
    exact c8 n h1 h2
  · have hL := LRel_ext (S' := S') a2 k4 k5 hx (a9 n (by rw [ha, hF]; exact hn))
    have hO := a3.2.2.2.2.2.2.2.1 n (by rw [ha, hF]; exact hn)
    exact ⟨LRel_tr (fun c _ => ⟨rfl, rfl, rfl, rfl⟩) (fun c z1 z2 z3 => hM5 c n z1 z2 z3 hn) (fun j hj => h12 _ (by omega)) hO hL, LOK_tr (fun c z1 z2 z3 => hM5 c n z1 z2 z3 hn) (fun j hj => h12 _ (by omega)) hO⟩
  · have hN := NRel_ext (S' := S') a2 hx (a10 k hk)
    have hO := a3.2.2.2.2.2.2.2.2.1 k hk
    constructor
    · unfold NRel at *
      rw [h14 15 (by omega) (by omega), h14 16 (by omega) (by omega), h14 17 (by omega) (by omega), h14 18 (by omega) (by omega), h14 19 (by omega) (by omega)]
      exact hN
    · have qp : qP M' = qP SM := by unfold qP; rw [e28]
      unfold NOK at *
      rw [qp, h14 15 (by omega) (by omega), h14 16 (by omega) (by omega), h14 17 (by omega) (by omega), h14 19 (by omega) (by omega)]
      exact hO
theorem ERel_mk {SC S' SM M' : HS} (e : ERel SC SM) (hS : ∀ b, b < 24 → b ≠ 0 → b ≠ 2 → b ≠ 3 → b ≠ 4 → b ≠ 5 → gI S' b = gI SC b) (hJ : ∀ b, b < 24 → gJ S' b = gJ SC b) (h13 : gI S' 0 13 = gI SC 0 13) (h17 : gI S' 0 17 = gI SC 0 17) (h14 : gI S' 0 14 = gI M' 0 2) (v2 : vp_in (gI M' 0 2) 2001) (h15 : gI S' 0 15 = gI M' 4 (qA M')) (h26 : gI S' 2 6 = gI M' 0 24) (h27 : gI S' 2 7 = gI M' 0 25) (m0 : ∀ j, j = 3 ∨ j = 54 ∨ j = 55 ∨ j = 57 ∨ j = 59 → gI M' 0 j = gI SM 0 j) (m1 : gI M' 1 = gI SM 1) (m36 : ∀ c, 36 ≤ c → c ≤ 40 → gI M' c = gI SM c) (mJ : gJ M' = gJ SM) : ERel S' M' := by
  obtain ⟨e1, e2, e3, e4, e5, e6, e7, e8, e9, e10, e11, e12, e13, e14, e15, e16, e17, e18⟩ := e
  obtain ⟨v1, _, v3, v4, v5⟩ := e1
  refine ⟨⟨by rw [m0 3 (by omega)]; exact v1, v2, by rw [m0 54 (by omega)]; exact v3, by rw [m0 57 (by omega)]; exact v4, by rw [m0 59 (by omega)]; exact v5⟩, ?_, h14, h15, ?_, ?_, h26, h27, ?_, ?_, ?_, ?_, ?_, ?_, ?_, ?_, ?_, ?_⟩
  · rw [h13, m0 3 (by omega)]; exact e2
  · rw [h17, m0 55 (by omega)]; exact e5
  · rw [hS 1 (by decide) (by decide) (by decide) (by decide) (by decide) (by decide), m1]; exact e6
  · rw [hJ 15 (by decide), mJ]; exact e9
  · rw [hS 16 (by decide) (by decide) (by decide) (by decide) (by decide) (by decide)]; exact e10
  · rw [hS 18 (by decide) (by decide) (by decide) (by decide) (by decide) (by decide)]; exact e11
  · rw [hS 20 (by decide) (by decide) (by decide) (by decide) (by decide) (by decide)]; exact e12
  · rw [hS 16 (by decide) (by decide) (by decide) (by decide) (by decide) (by decide), m0 54 (by omega)]; exact e13
  · rw [hS 18 (by decide) (by decide) (by decide) (by decide) (by decide) (by decide), m0 57 (by omega)]; exact e14
  · rw [hS 20 (by decide) (by decide) (by decide) (by decide) (by decide) (by decide), m0 59 (by omega)]; exact e15
  · rw [hJ 17 (by decide), m0 54 (by omega), m36 36 (by omega) (by omega), m36 37 (by omega) (by omega), mJ]; exact e16
  · rw [hJ 19 (by decide), m0 57 (by omega), m36 39 (by omega) (by omega)]; exact e17
  · rw [hJ 21 (by decide), m0 59 (by omega), m36 40 (by omega) (by omega)]; exact e18
