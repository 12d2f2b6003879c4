/-! a text that is refused; a text that is taken -/
theorem EX_F {SC S' : HS} {l : Nat} (hl : gZ SC = l) (h : INVF l (sI SC 0 14 0) S') : EX SC S' := by
  obtain ⟨h1, h2, h3, h4, h5⟩ := h
  intro b hb
  obtain ⟨q1, q2, q3, q4⟩ := h4 b (by omega)
  exact ⟨q3, q4, fun z => (h3 b (by omega) (by omega) (by omega)).trans (sI_ne (by omega)), fun z _ _ => q1⟩
theorem DRel_fault {SC SM S' M' : HS} {LA NL : List Nat} {oA oL oN : Nat → Nat} {a F l : Nat} (d : DRel SC SM LA NL oA oL oN) (ha : qA SM = a) (hF : qL SM a = F) (hM5 : ∀ c j, 5 ≤ c → c ≤ 13 → c ≠ 12 → j < F → gI M' c j = gI SM c j) (h12 : ∀ j, j < 8 * F → gI M' 12 j = gI SM 12 j) (h2 : gI M' 2 = gI SM 2) (h3 : gI M' 3 = gI SM 3) (h4 : gI M' 4 = gI SM 4) (h14 : ∀ c, 14 ≤ c → c < 20 → gI M' c = gI SM c) (e7 : gI M' 0 7 = gI SM 0 7) (e28 : gI M' 0 28 = gI SM 0 28) (e34 : gI M' 0 34 = gI SM 0 34) (hl : gZ SC = l) (hI : INVF l (sI SC 0 14 0) S') : DRel S' M' LA NL oA oL oN := by
  have hx := EX_F hl hI
  have hZ : 65 ≤ l := by rw [← hl]; exact d.1.1
  obtain ⟨i1, i2, i3, i4, i5⟩ := hI
  have r4 : gR S' 4 = gR SC 4 := (i4 4 (by omega)).1
  have r5 : gR S' 5 = gR SC 5 := (i4 5 (by omega)).1
  obtain ⟨o1, o2, o3⟩ := agree_old (S' := S') d ha hF hM5 h12 (fun j _ => by rw [h2]) (fun j _ => by rw [h3]) (fun j _ => by rw [h4]) h14 e28 hx (fun d hd => Or.inl (by rw [← r4]; exact hd)) (fun d hd => Or.inl (by rw [← r5]; exact hd))
  obtain ⟨a1, a2, a3, a4, a5, a6, a7, a8, a9, a10, a12, a13⟩ := d
  have qa : qA M' = a := by unfold qA; rw [e7]; exact ha
  have ql : qL M' = qL SM := by funext j; unfold qL; rw [h4]
  have qn : qN M' = qN SM := by unfold qN; rw [e34]
  have hRd : ∀ d, gK SC d = 25 → gR S' d = gR SC d := fun d hd => (i4 d (by rw [← hl]; exact lt_Z a2 hd (by decide))).1
  refine ⟨i1, i2, ?_, ?_, ?_, ?_, ?_, fun x hx' => o1 oL x (fun _ _ => rfl) (by omega), fun n hn => (o2 n (by rw [qa, ql, hF] at hn; exact hn)).1, fun k hk => (o3 k (by omega)).1, ?_, ?_⟩
  · obtain ⟨b1, b2, b3, b4, b5, b6, b7, b8, b9, b10⟩ := a3
    unfold DOK
    rw [qa, ql, e7, e28, e34, qn, h3, h4, h14 14 (by omega) (by omega)]
    rw [ha] at b4 b6 b7
    exact ⟨b1, b2, b3, b4, b5, b6, b7, fun n hn => (o2 n (by rw [hF] at hn; exact hn)).2, fun k hk => (o3 k hk).2, b10⟩
  · exact ORel_same a4 a3 ha qa (fun j _ => by unfold qF; rw [h3]) (fun j _ => by rw [ql]) (fun n hn => by unfold qK; rw [hM5 5 n (by omega) (by omega) (by omega) (by omega)]) (fun j _ => by rw [h2]) e34 (h14 17 (by omega) (by omega))
  · exact JG_ext a2 a5 (by rw [(i4 4 (by omega)).2.2.1]; exact a5.1) (by rw [i3 4 (by omega) (by omega) (by omega), sI_ne (by decide)]) (by rw [r4]) (fun b hb => ⟨(hx b hb).1, (hx b hb).2.1⟩) (fun d hd => hRd d (JG_k a5 d hd).1)
  · exact JG_ext a2 a6 (by rw [(i4 5 (by omega)).2.2.1]; exact a6.1) (by rw [i3 5 (by omega) (by omega) (by omega), sI_ne (by decide)]) (by rw [r5]) (fun b hb => ⟨(hx b hb).1, (hx b hb).2.1⟩) (fun d hd => hRd d (JG_k a6 d hd).1)
  · rw [r4, r5]; exact a7
  · rw [i3 0 (by omega) (by omega) (by omega), sI_nk (by decide), e28]; exact a12
  · intro p hp
    rw [i3 6 (by omega) (by omega) (by omega), sI_ne (by decide), h14 14 (by omega) (by omega)]; exact a13 p hp
theorem DRel_agree {SC SM S' M' : HS} {LA NL : List Nat} {oA oL oN : Nat → Nat} {a F fr o : Nat} {ys : List Nat} (d : DRel SC SM LA NL oA oL oN) (ha : qA SM = a) (hF : qL SM a = F) (hM5 : ∀ c j, 5 ≤ c → c ≤ 13 → c ≠ 12 → j < F → gI M' c j = gI SM c j) (h12 : ∀ j, j < 8 * F → gI M' 12 j = gI SM 12 j) (h2 : ∀ j, j < a → gI M' 2 j = gI SM 2 j) (h3 : ∀ j, j < a → gI M' 3 j = gI SM 3 j) (h4 : ∀ j, j ≤ a → gI M' 4 j = gI SM 4 j) (h14 : ∀ c, 14 ≤ c → c < 20 → gI M' c = gI SM c) (e28 : gI M' 0 28 = gI SM 0 28) (e34 : gI M' 0 34 = gI SM 0 34) (hx : EX SC S') (n4 : ∀ d, gR S' 4 1 = some d → gR SC 4 1 = some d ∨ gZ SC ≤ d)
    (la : a < 12) (e7 : gI M' 0 7 = nI (a + 1)) (m3 : gI M' 3 a = nI fr) (lf : fr < 1200) (m4 : gI M' 4 (a + 1) = nI (F + ys.length)) (ly : ys.length ≤ 40) (hC' : hC S') (hFr' : hFr S') (i0 : gI S' 0 16 = gI SC 0 16) (i6 : gI S' 6 = gI SC 6) (i5 : gI S' 5 = gI SC 5) (r5 : gR S' 5 = gR SC 5) (hx5 : ∀ d, gR SC 5 1 = some d → gR S' d = gR SC d) (hJ : JG S' 4 80 (insL (LA.map oA) (cLt (qF SM) LA (fr + 1)) o)) (hO : ARel S' M' (fun n => if n < F then oL n else ys.getD (n - F) 0) o a) (hLn : ∀ i, i < ys.length → LRel S' M' (ys.getD i 0) (F + i) ∧ LOK M' (F + i)) :
    DRel S' M' (insL LA (cLt (qF SM) LA (fr + 1)) a) NL (up1 oA a o) (fun n => if n < F then oL n else ys.getD (n - F) 0) oN := by
  obtain ⟨o1, o2, o3⟩ := agree_old (S' := S') d ha hF hM5 h12 h2 h3 h4 h14 e28 hx n4 (fun d hd => Or.inl (by rw [← r5]; exact hd))
  obtain ⟨a1, a2, a3, a4, a5, a6, a7, a8, a9, a10, a12, a13⟩ := d
  have hF40 := qL_40 a3 a (by omega)
  have qa : qA M' = a + 1 := by unfold qA; rw [e7, n_cl (by omega)]
  have ql : ∀ j, j ≤ a → qL M' j = qL SM j := fun j hj => by unfold qL; rw [h4 j hj]
  have qla : qL M' (a + 1) = F + ys.length := by unfold qL; rw [m4, n_cl (by omega)]
  have qn : qN M' = qN SM := by unfold qN; rw [e34]
  have hmem : ∀ x ∈ LA, x ≠ a := fun x hx => by have := List.mem_range.mp (a4.1.mem_iff.mp hx); omega
  have hlok : ∀ n, n < F + ys.length → LOK M' n := fun n hn => by
    by_cases c : n < F
    · exact (o2 n c).2
    · have := (hLn (n - F) (by omega)).2
      rw [show F + (n - F) = n by omega] at this; exact this
  refine ⟨hC', hFr', ?_, ?_, ?_, ?_, fun d hd z => ?_, fun x hx' => ?_, fun n hn => ?_, fun k hk => (o3 k (by omega)).1, ?_, ?_⟩
  · obtain ⟨b1, b2, b3, b4, b5, b6, b7, b8, b9, b10⟩ := a3
    unfold DOK
    rw [qa, qla, e28, e34, qn, h14 14 (by omega) (by omega)]
    refine ⟨by rw [e7]; exact (n_in (by omega)).mpr (by omega), b2, b3, fun x hx' => ?_, by rw [h4 0 (by omega)]; exact b5, fun x hx' => ?_, fun x hx' => ?_, hlok, fun k hk => (o3 k hk).2, b10⟩
    · by_cases c : x = a
      · rw [c, m3]; exact (n_in (by omega)).mpr lf
      · rw [h3 x (by omega)]; exact b4 x (by omega)
    · by_cases c : x = a + 1
      · rw [c, m4]; exact (n_in (by omega)).mpr (by omega)
      · rw [h4 x (by omega)]; exact b6 x (by omega)
    · by_cases c : x = a
      · rw [c, qla, ql a (by omega), hF]; omega
      · rw [ql x (by omega), ql (x + 1) (by omega)]; exact b7 x (by omega)
  · exact ORel_agree a4 a3 ha qa (fun j hj => by unfold qF; rw [h3 j hj]) (by unfold qF; rw [m3, n_cl (by omega)]) ql (fun n hn => by unfold qK; rw [hM5 5 n (by omega) (by omega) (by omega) (by omega)]) h2 e34 (h14 17 (by omega) (by omega))
  · have : (insL LA (cLt (qF SM) LA (fr + 1)) a).map (up1 oA a o) = insL (LA.map oA) (cLt (qF SM) LA (fr + 1)) o := by
      unfold insL
      rw [List.map_append, List.map_cons, up1_eq, List.map_take, List.map_drop]
      have e : LA.map (up1 oA a o) = LA.map oA := List.map_congr_left (fun x hx => up1_ne (hmem x hx))
      rw [e]
    rw [this]; exact hJ
  · exact JG_ext a2 a6 (by rw [(hx 5 (lt_Z a2 a6.1 (by decide))).1]; exact a6.1) (by rw [i5]) (by rw [r5]) (fun b hb => ⟨(hx b hb).1, (hx b hb).2.1⟩) hx5
  · rw [r5] at z
    rcases n4 d hd with q | q
    · exact a7 d q z
    · have := lt_Z a2 (JG_k a6 d z).1 (by decide); omega
  · rw [qa] at hx'
    by_cases c : x = a
    · rw [c, up1_eq]; exact hO
    · rw [up1_ne c]
      exact o1 _ x (fun n hn => if_pos hn) (by omega)
  · rw [qa, qla] at hn
    by_cases c : n < F
    · show LRel S' M' (if n < F then oL n else ys.getD (n - F) 0) n
      rw [if_pos c]; exact (o2 n c).1
    · show LRel S' M' (if n < F then oL n else ys.getD (n - F) 0) n
      rw [if_neg c]
      have := (hLn (n - F) (by omega)).1
      rw [show F + (n - F) = n by omega] at this; exact this
  · rw [i0, e28]; exact a12
  · intro p hp
    rw [i6, h14 14 (by omega) (by omega)]; exact a13 p hp
