/-! the relation at the beginning -/
theorem lkR_big {b z : Nat} : ∀ (RL : List (Nat × Nat × Nat)), RL.all (fun q => decide (q.2.1 < z)) = true → ∀ j, z ≤ j → lkR RL b j = none := by
  intro RL
  induction RL with
  | nil => intro _ j _; rfl
  | cons q l ih =>
    intro h j hj
    rw [List.all_cons, Bool.and_eq_true] at h
    have h1 : q.2.1 < z := by simpa using h.1
    unfold lkR
    rw [if_neg (fun y => by have := y.2; omega)]
    exact ih h.2 j hj
theorem geo_M : hM (mkS iM rM kM nM) := by
  refine ⟨?_, ?_, ?_, by decide +kernel⟩
  · show (fun c => kM.getD c 99) = KM
    funext c; unfold KM; rw [show kM = KMl by decide +kernel]
  · show (fun c => nM.getD c 0) = NM
    funext c; unfold NM; rw [show nM = NMl by decide +kernel]
  · show (fun b j => lkR rM b j) = RM
    funext b j
    unfold RM
    by_cases c : b = 0
    · rw [if_pos c, c]
      by_cases c2 : j < 60
      · have : ∀ j, j < 60 → lkR rM 0 j = RMl.getD j none := by decide +kernel
        exact this j c2
      · have hlen : RMl.length ≤ 60 := by decide +kernel
        rw [lkR_big (z := 60) rM (by decide +kernel) j (by omega), List.getD_eq_getElem?_getD, List.getElem?_eq_none (by omega)]
        rfl
    · rw [if_neg c]
      refine lkR_no rM ?_ j
      have : ∀ q ∈ rM, q.1 = 0 := by decide +kernel
      rw [List.all_eq_true]
      intro q hq
      have := this q hq
      rw [this]; simp; omega
theorem geo_C : hC (sZ (mkS iC rC kC nC) 65) := by
  refine ⟨Nat.le_refl 65, fun c _ => ?_, fun c _ => ?_, ?_, fun c h1 _ => ?_⟩
  · show kC.getD c 99 = _
    rw [show kC = KCl by decide +kernel]
  · show nC.getD c 0 = _
    rw [show nC = NCl by decide +kernel]
  · show ∀ q ∈ RCl, lkR rC q.1 q.2.1 = some q.2.2
    decide +kernel
  · show kC.getD c 99 = 99
    rw [List.getD_eq_getElem?_getD, List.getElem?_eq_none (by have : kC.length = 24 := by decide +kernel
                                                              omega)]
    rfl
theorem fr_C : hFr (sZ (mkS iC rC kC nC) 65) := by
  intro c h
  have h : 65 ≤ c := h
  show kC.getD c 99 = 99
  rw [List.getD_eq_getElem?_getD, List.getElem?_eq_none (by have : kC.length = 24 := by decide +kernel
                                                            omega)]
  rfl
theorem mI {c : Nat} (h : c ≠ 0) (j : Nat) : gI (mkS iM rM kM nM) c j = 0 := by
  show lkI iM c j = 0
  refine lkI_no iM ?_ j
  have : ∀ q ∈ iM, q.1 = 0 := by decide +kernel
  rw [List.all_eq_true]
  intro q hq
  have := this q hq
  rw [this]; simp; omega
theorem RR_0 : RR 0 (sZ (mkS iC rC kC nC) 65) (mkS iM rM kM nM) := by
  have q7 : gI (mkS iM rM kM nM) 0 7 = 0 := by decide +kernel
  have q28 : gI (mkS iM rM kM nM) 0 28 = 0 := by decide +kernel
  have q34 : gI (mkS iM rM kM nM) 0 34 = 0 := by decide +kernel
  have z0 : ∀ N : Nat, 0 < N → vp_in (0 : Int32) N := fun N h => (n_in (a := 0) (by omega)).mpr h
  have c0 : Int32.toNatClampNeg (0 : Int32) = 0 := rfl
  have qa : qA (mkS iM rM kM nM) = 0 := by unfold qA; rw [q7]; rfl
  have qn : qN (mkS iM rM kM nM) = 0 := by unfold qN; rw [q34]; rfl
  have ql : ∀ a, qL (mkS iM rM kM nM) a = 0 := fun a => by unfold qL; rw [mI (by decide)]; rfl
  have cI : ∀ c, c = 1 ∨ c = 6 → ∀ j, gI (sZ (mkS iC rC kC nC) 65) c j = 0 := by
    intro c hc j
    show lkI iC c j = 0
    rcases hc with rfl | rfl
    · exact lkI_no iC (by decide +kernel) j
    · exact lkI_no iC (by decide +kernel) j
  have j4 : JG (sZ (mkS iC rC kC nC) 65) 4 80 [] := ⟨by decide +kernel, by decide +kernel, Or.inl ⟨by decide +kernel, rfl⟩⟩
  have j5 : JG (sZ (mkS iC rC kC nC) 65) 5 300 [] := ⟨by decide +kernel, by decide +kernel, Or.inl ⟨by decide +kernel, rfl⟩⟩
  refine ⟨⟨⟨?_, ?_, ?_, ?_, ?_⟩, ?_, ?_, ?_, ?_, fun j _ => ?_, ?_, ?_, fun j _ => rfl, ?_, ?_, ?_, ?_, ?_, ?_, fun k hk => ?_, fun k j hk => ?_, fun k j hk => ?_⟩, [], [], fun _ => 0, fun _ => 0, fun _ => 0, geo_C, fr_C, ⟨?_, ?_, ?_, fun a ha => ?_, ?_, fun a _ => ?_, fun a ha => ?_, fun n hn => ?_, fun k hk => ?_, fun p _ => ?_⟩, ⟨?_, List.Pairwise.nil, fun day K k => ?_, ?_, List.Pairwise.nil, fun d => ?_⟩, j4, j5, fun d hd => ?_, fun a ha => ?_, fun n hn => ?_, fun k hk => ?_, ?_, fun p _ => ?_⟩
  · rw [show gI (mkS iM rM kM nM) 0 3 = 0 by decide +kernel]; exact z0 _ (by omega)
  · rw [show gI (mkS iM rM kM nM) 0 2 = 0 by decide +kernel]; exact z0 _ (by omega)
  · rw [show gI (mkS iM rM kM nM) 0 54 = 0 by decide +kernel]; exact z0 _ (by omega)
  · rw [show gI (mkS iM rM kM nM) 0 57 = 0 by decide +kernel]; exact z0 _ (by omega)
  · rw [show gI (mkS iM rM kM nM) 0 59 = 0 by decide +kernel]; exact z0 _ (by omega)
  · decide +kernel
  · decide +kernel
  · rw [mI (by decide)]; decide +kernel
  · decide +kernel
  · rw [cI 1 (Or.inl rfl), mI (by decide)]; decide
  · decide +kernel
  · decide +kernel
  · decide +kernel
  · decide +kernel
  · decide +kernel
  · decide +kernel
  · decide +kernel
  · decide +kernel
  · rw [show gI (mkS iM rM kM nM) 0 54 = 0 by decide +kernel, c0] at hk; omega
  · rw [show gI (mkS iM rM kM nM) 0 57 = 0 by decide +kernel, c0] at hk; omega
  · rw [show gI (mkS iM rM kM nM) 0 59 = 0 by decide +kernel, c0] at hk; omega
  · rw [q7]; exact z0 _ (by omega)
  · rw [q28]; exact z0 _ (by omega)
  · rw [q34]; exact z0 _ (by omega)
  · rw [qa] at ha; omega
  · exact mI (by decide) 0
  · rw [mI (by decide)]; exact z0 _ (by omega)
  · rw [qa] at ha; omega
  · rw [ql] at hn; omega
  · rw [qn] at hk; omega
  · rw [mI (by decide)]; exact z0 _ (by omega)
  · rw [qa]; exact List.Perm.refl _
  · unfold wins; rw [qa, List.range_zero, List.flatMap_nil, List.foldl_nil, List.foldl_nil]
  · rw [qn]; exact List.Perm.refl _
  · rw [qn]; rfl
  · rw [show gR (sZ (mkS iC rC kC nC) 65) 4 1 = none by decide +kernel] at hd; cases hd
  · rw [qa] at ha; omega
  · rw [ql] at hn; omega
  · rw [qn] at hk; omega
  · decide +kernel
  · rw [cI 6 (Or.inr rfl), mI (by decide)]
