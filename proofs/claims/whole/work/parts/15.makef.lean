theorem hdef_1 : ∀ k, k < 4 → ((ktl 1).getD k 0 = 0 ∧ defaultValue (tyX0 k) = .int 0) ∨ ((ktl 1).getD k 0 = 1 ∧ defaultValue (tyX0 k) = .null) := by
  intro k hk
  have h : k = 0 ∨ k = 1 ∨ k = 2 ∨ k = 3 := by omega
  rcases h with rfl | rfl | rfl | rfl <;> first | exact Or.inl ⟨rfl, rfl⟩ | exact Or.inr ⟨rfl, rfl⟩
theorem hdef_2 : ∀ k, k < 7 → ((ktl 2).getD k 0 = 0 ∧ defaultValue (tyX1 k) = .int 0) ∨ ((ktl 2).getD k 0 = 1 ∧ defaultValue (tyX1 k) = .null) := by
  intro k hk
  have h : k = 0 ∨ k = 1 ∨ k = 2 ∨ k = 3 ∨ k = 4 ∨ k = 5 ∨ k = 6 := by omega
  rcases h with rfl | rfl | rfl | rfl | rfl | rfl | rfl <;> first | exact Or.inl ⟨rfl, rfl⟩ | exact Or.inr ⟨rfl, rfl⟩
theorem hdef_3 : ∀ k, k < 10 → ((ktl 3).getD k 0 = 0 ∧ defaultValue (tyX2 k) = .int 0) ∨ ((ktl 3).getD k 0 = 1 ∧ defaultValue (tyX2 k) = .null) := by
  intro k hk
  have h : k = 0 ∨ k = 1 ∨ k = 2 ∨ k = 3 ∨ k = 4 ∨ k = 5 ∨ k = 6 ∨ k = 7 ∨ k = 8 ∨ k = 9 := by omega
  rcases h with rfl | rfl | rfl | rfl | rfl | rfl | rfl | rfl | rfl | rfl <;> first | exact Or.inl ⟨rfl, rfl⟩ | exact Or.inr ⟨rfl, rfl⟩
theorem hdef_4 : ∀ k, k < 5 → ((ktl 4).getD k 0 = 0 ∧ defaultValue (tyX3 k) = .int 0) ∨ ((ktl 4).getD k 0 = 1 ∧ defaultValue (tyX3 k) = .null) := by
  intro k hk
  have h : k = 0 ∨ k = 1 ∨ k = 2 ∨ k = 3 ∨ k = 4 := by omega
  rcases h with rfl | rfl | rfl | rfl | rfl <;> first | exact Or.inl ⟨rfl, rfl⟩ | exact Or.inr ⟨rfl, rfl⟩
theorem hdef_5 : ∀ k, k < 8 → ((ktl 5).getD k 0 = 0 ∧ defaultValue (tyX4 k) = .int 0) ∨ ((ktl 5).getD k 0 = 1 ∧ defaultValue (tyX4 k) = .null) := by
  intro k hk
  have h : k = 0 ∨ k = 1 ∨ k = 2 ∨ k = 3 ∨ k = 4 ∨ k = 5 ∨ k = 6 ∨ k = 7 := by omega
  rcases h with rfl | rfl | rfl | rfl | rfl | rfl | rfl | rfl <;> first | exact Or.inl ⟨rfl, rfl⟩ | exact Or.inr ⟨rfl, rfl⟩
theorem hdef_6 : ∀ k, k < 3 → ((ktl 6).getD k 0 = 0 ∧ defaultValue (tyX5 k) = .int 0) ∨ ((ktl 6).getD k 0 = 1 ∧ defaultValue (tyX5 k) = .null) := by
  intro k hk
  have h : k = 0 ∨ k = 1 ∨ k = 2 := by omega
  rcases h with rfl | rfl | rfl <;> first | exact Or.inl ⟨rfl, rfl⟩ | exact Or.inr ⟨rfl, rfl⟩
theorem hdef_7 : ∀ k, k < 3 → ((ktl 7).getD k 0 = 0 ∧ defaultValue (tyX6 k) = .int 0) ∨ ((ktl 7).getD k 0 = 1 ∧ defaultValue (tyX6 k) = .null) := by
  intro k hk
  have h : k = 0 ∨ k = 1 ∨ k = 2 := by omega
  rcases h with rfl | rfl | rfl <;> first | exact Or.inl ⟨rfl, rfl⟩ | exact Or.inr ⟨rfl, rfl⟩
theorem hdef_8 : ∀ k, k < 18 → ((ktl 8).getD k 0 = 0 ∧ defaultValue (tyX7 k) = .int 0) ∨ ((ktl 8).getD k 0 = 1 ∧ defaultValue (tyX7 k) = .null) := by
  intro k hk
  have h : k = 0 ∨ k = 1 ∨ k = 2 ∨ k = 3 ∨ k = 4 ∨ k = 5 ∨ k = 6 ∨ k = 7 ∨ k = 8 ∨ k = 9 ∨ k = 10 ∨ k = 11 ∨ k = 12 ∨ k = 13 ∨ k = 14 ∨ k = 15 ∨ k = 16 ∨ k = 17 := by omega
  rcases h with rfl | rfl | rfl | rfl | rfl | rfl | rfl | rfl | rfl | rfl | rfl | rfl | rfl | rfl | rfl | rfl | rfl | rfl <;> first | exact Or.inl ⟨rfl, rfl⟩ | exact Or.inr ⟨rfl, rfl⟩
theorem hdef_9 : ∀ k, k < 18 → ((ktl 9).getD k 0 = 0 ∧ defaultValue (tyX8 k) = .int 0) ∨ ((ktl 9).getD k 0 = 1 ∧ defaultValue (tyX8 k) = .null) := by
  intro k hk
  have h : k = 0 ∨ k = 1 ∨ k = 2 ∨ k = 3 ∨ k = 4 ∨ k = 5 ∨ k = 6 ∨ k = 7 ∨ k = 8 ∨ k = 9 ∨ k = 10 ∨ k = 11 ∨ k = 12 ∨ k = 13 ∨ k = 14 ∨ k = 15 ∨ k = 16 ∨ k = 17 := by omega
  rcases h with rfl | rfl | rfl | rfl | rfl | rfl | rfl | rfl | rfl | rfl | rfl | rfl | rfl | rfl | rfl | rfl | rfl | rfl <;> first | exact Or.inl ⟨rfl, rfl⟩ | exact Or.inr ⟨rfl, rfl⟩
theorem hdef_10 : ∀ k, k < 60 → ((ktl 10).getD k 0 = 0 ∧ defaultValue (tyX9 k) = .int 0) ∨ ((ktl 10).getD k 0 = 1 ∧ defaultValue (tyX9 k) = .null) := by
  intro k hk
  have h : k = 0 ∨ k = 1 ∨ k = 2 ∨ k = 3 ∨ k = 4 ∨ k = 5 ∨ k = 6 ∨ k = 7 ∨ k = 8 ∨ k = 9 ∨ k = 10 ∨ k = 11 ∨ k = 12 ∨ k = 13 ∨ k = 14 ∨ k = 15 ∨ k = 16 ∨ k = 17 ∨ k = 18 ∨ k = 19 ∨ k = 20 ∨ k = 21 ∨ k = 22 ∨ k = 23 ∨ k = 24 ∨ k = 25 ∨ k = 26 ∨ k = 27 ∨ k = 28 ∨ k = 29 ∨ k = 30 ∨ k = 31 ∨ k = 32 ∨ k = 33 ∨ k = 34 ∨ k = 35 ∨ k = 36 ∨ k = 37 ∨ k = 38 ∨ k = 39 ∨ k = 40 ∨ k = 41 ∨ k = 42 ∨ k = 43 ∨ k = 44 ∨ k = 45 ∨ k = 46 ∨ k = 47 ∨ k = 48 ∨ k = 49 ∨ k = 50 ∨ k = 51 ∨ k = 52 ∨ k = 53 ∨ k = 54 ∨ k = 55 ∨ k = 56 ∨ k = 57 ∨ k = 58 ∨ k = 59 := by omega
  rcases h with rfl | rfl | rfl | rfl | rfl | rfl | rfl | rfl | rfl | rfl | rfl | rfl | rfl | rfl | rfl | rfl | rfl | rfl | rfl | rfl | rfl | rfl | rfl | rfl | rfl | rfl | rfl | rfl | rfl | rfl | rfl | rfl | rfl | rfl | rfl | rfl | rfl | rfl | rfl | rfl | rfl | rfl | rfl | rfl | rfl | rfl | rfl | rfl | rfl | rfl | rfl | rfl | rfl | rfl | rfl | rfl | rfl | rfl | rfl | rfl <;> first | exact Or.inl ⟨rfl, rfl⟩ | exact Or.inr ⟨rfl, rfl⟩
theorem hdef_11 : ∀ k, k < 3 → ((ktl 11).getD k 0 = 0 ∧ defaultValue (tyJx4a65c k) = .int 0) ∨ ((ktl 11).getD k 0 = 1 ∧ defaultValue (tyJx4a65c k) = .null) := by
  intro k hk
  have h : k = 0 ∨ k = 1 ∨ k = 2 := by omega
  rcases h with rfl | rfl | rfl <;> first | exact Or.inl ⟨rfl, rfl⟩ | exact Or.inr ⟨rfl, rfl⟩
/-! yX0_init -/
noncomputable def fn_X0_init (x0 : Nat) (x1 : Int32) (x2 : Int32) (x3 : Int32) (x4 : Nat) (S : HS) : Option HS := gd (gK S x0 = 1) (bn (some (sI S x0 0 x1)) (fun S2 => gd (gK S2 x0 = 1) (bn (some (sI S2 x0 1 x2)) (fun S4 => gd (gK S4 x0 = 1) (bn (some (sI S4 x0 2 x3)) (fun S6 => gd (gK S6 x0 = 1) (bn (some (sR S6 x0 3 (some x4))) (fun S8 => some S8))))))))
/-! yX3_init -/
noncomputable def fn_X3_init (x0 : Nat) (x1 : Int32) (x2 : Int32) (x3 : Int32) (x4 : Int32) (x5 : Int32) (S : HS) : Option HS := gd (gK S x0 = 4) (bn (some (sI S x0 0 x1)) (fun S2 => gd (gK S2 x0 = 4) (bn (some (sI S2 x0 1 x2)) (fun S4 => gd (gK S4 x0 = 4) (bn (some (sI S4 x0 2 x3)) (fun S6 => gd (gK S6 x0 = 4) (bn (some (sI S6 x0 3 x4)) (fun S8 => gd (gK S8 x0 = 4) (bn (some (sI S8 x0 4 x5)) (fun S10 => some S10))))))))))
/-! yX2_init -/
noncomputable def fn_X2_init_35  (y0 : Int32) (y1 : Nat) (ca : Nat) (sl : Nat) (S : HS) : Option HS := gd (¬ y0 < 0 ∧ y0.toNatClampNeg ≤ 60000 ∧ ca + 1 ≤ 1 ∧ sl + y0.toNatClampNeg ≤ 8) (bn (some (aN S 21 (y0.toNatClampNeg))) (fun S2 => gd (gK S2 y1 = 3) (bn (some (sR S2 y1 2 (some (gZ S)))) (fun S4 => some S4))))
noncomputable def fn_X2_init_34  (y0 : Nat) (ca : Nat) (sl : Nat) (S : HS) : Option HS := fn_X2_init_35 0 y0 ca sl S
noncomputable def fn_X2_init (x0 : Nat) (x1 : Int32) (x2 : Int32) (S : HS) : Option HS := gd (gK S x0 = 3) (bn (some (sI S x0 5 (-1))) (fun S2 => gd (gK S2 x0 = 3) (bn (some (sI S2 x0 0 x1)) (fun S4 => gd (gK S4 x0 = 3) (gd (x2 = 0 ∨ x2 = 1) (bn (some (sI S4 x0 1 x2)) (fun S7 => cd (x1 = 2) (cd (x2 = 0) (fn_X2_init_35 8 x0 0 0 S7) (fn_X2_init_34 x0 0 0 S7)) (fn_X2_init_34 x0 0 0 S7))))))))
/-! yX4_readEnd -/
noncomputable def fn_X4_readEnd_35  (x1 : Int32) (ca : Nat) (sl : Nat) (S : HS) : Option (Option Nat × HS) := bn (fn_X4_advance S) (fun S1 => gd (ca + 1 ≤ 2 ∧ sl + 10 ≤ 18) (bn (some (aN S1 3 0)) (fun S3 => gd (ca + 1 + 1 ≤ 2 ∧ sl + 10 + 8 ≤ 18) (bn (fn_X2_init (gZ S1) x1 1 S3) (fun S4 => bn2 (fn_X4_takeLetter 97 122 S4) (fun r7 S6 => gd (gK S6 (gZ S1) = 3) (bn (some (sI S6 (gZ S1) 4 r7)) (fun S9 => some (some (gZ S1), S9)))))))))
noncomputable def fn_X4_readEnd  (S : HS) : Option (Option Nat × HS) := bn2 (fn_X4_wordOfToken S) (fun r2 S1 => cd (r2 = 0) (fn_X4_readEnd_35 r2 0 0 S1) (cd (r2 = 1) (fn_X4_readEnd_35 r2 0 0 S1) (cd (r2 = 2) (fn_X4_readEnd_35 r2 0 0 S1) (cd (r2 = 5) (fn_X4_readEnd_35 r2 0 0 S1) (bn (fn_X4_refuse 1 (gI S1 2 3) S1) (fun S3 => fn_X4_readEnd_35 0 0 0 S3))))))
/-! yX4_readBody -/
noncomputable def fn_X4_readBody_164  (x2 : Nat) (ca : Nat) (sl : Nat) (S : HS) : Option (Option Nat × HS) := some (some x2, S)
noncomputable def fn_X4_readBody_153  (x2 : Nat) (ca : Nat) (sl : Nat) (S : HS) : Option (Option Nat × HS) := bn (fn_X4_takeSign 61 S) (fun S1 => bn (fn_X4_readPlusNumber x2 S1) (fun S2 => fn_X4_readBody_164 x2 ca sl S2))
noncomputable def fn_X4_readBody_32  (x1 : Int32) (x2 : Nat) (ca : Nat) (sl : Nat) (S : HS) : Option (Option Nat × HS) := cd (x1 = 0) (bn (fn_X4_readCondition x2 S) (fun S1 => bn (fn_X4_takeSign 61 S1) (fun S2 => bn2 (fn_X4_takeNumber S2) (fun r4 S3 => gd (gK S3 x2 = 3) (bn (some (sI S3 x2 8 r4)) (fun S6 => fn_X4_readBody_164 x2 ca sl S6)))))) (cd (x1 = 1) (bn (fn_X4_takeFrom S) (fun S7 => bn2 (fn_X4_takeNumber S7) (fun r9 S8 => gd (gK S8 x2 = 3) (bn (some (sI S8 x2 8 r9)) (fun S11 => fn_X4_readBody_164 x2 ca sl S11))))) (cd (x1 = 2) (bn (fn_X4_takeSign 58 S) (fun S12 => bn (fn_X4_readScale x2 S12) (fun S13 => fn_X4_readBody_164 x2 ca sl S13))) (cd (x1 = 3) (bn (fn_X4_readStepDays x2 S) (fun S14 => fn_X4_readBody_164 x2 ca sl S14)) (cd (x1 = 4) (bn2 (fn_X4_takeNumber S) (fun r16 S15 => gd (gK S15 x2 = 3) (bn (some (sI S15 x2 8 r16)) (fun S18 => fn_X4_readBody_164 x2 ca sl S18)))) (cd ((gI S 2 5) = 257) (bn (fn_X4_readCondition x2 S) (fun S19 => fn_X4_readBody_153 x2 ca sl S19)) (fn_X4_readBody_153 x2 ca sl S))))))
noncomputable def fn_X4_readBody (x1 : Int32) (S : HS) : Option (Option Nat × HS) := bn (some (aN S 3 0)) (fun S1 => bn (fn_X2_init (gZ S) x1 0 S1) (fun S2 => cd (x1 = 3) (fn_X4_readBody_32 x1 (gZ S) 2 18 S2) (cd (x1 = 4) (fn_X4_readBody_32 x1 (gZ S) 2 18 S2) (bn2 (fn_X4_takeLetter 97 122 S2) (fun r4 S3 => gd (gK S3 (gZ S) = 3) (bn (some (sI S3 (gZ S) 4 r4)) (fun S6 => fn_X4_readBody_32 x1 (gZ S) 2 18 S6)))))))
/-! yX4_read -/
noncomputable def fn_X4_read_112  (x2 : Nat) (ca : Nat) (sl : Nat) (S : HS) : Option (Option Nat × HS) := some (some x2, S)
noncomputable def fn_X4_read_106 (k15 : Nat → Int32 → Nat → Nat → HS → Option (Option Nat × HS)) (x2 : Nat) (x3 : Int32) (ca : Nat) (sl : Nat) (S : HS) : Option (Option Nat × HS) := bn (some (x3 + 1)) (fun v1 => k15 x2 v1 ca sl S)
noncomputable def fn_X4_read_80 (k15 : Nat → Int32 → Nat → Nat → HS → Option (Option Nat × HS)) (x2 : Nat) (x3 : Int32) (x4 : Int32) (y0 : Option Nat) (ca : Nat) (sl : Nat) (S : HS) : Option (Option Nat × HS) := bn (y0) (fun c1 => gd (gK S c1 = 3) (bn2 (fn_X2_key c1 S) (fun r4 S3 => bn (fn_X4_checkKey r4 x4 S3) (fun S5 => bn (fn_X4_takeSign 59 S5) (fun S6 => bn (y0) (fun c7 => gd (gK S6 x2 = 0) (gd (ca + 1 ≤ 130 ∧ sl + 80 ≤ 4100) (bn (fl_add x2 c7 80 S6) (fun S9 => fn_X4_read_106 k15 x2 x3 (ca + 1) (sl + 80) S9)))))))))
noncomputable def fn_X4_read_15  : Nat → Nat → Int32 → Nat → Nat → HS → Option (Option Nat × HS)
  | 0, _, _, _, _, _ => none
  | n + 1, x2, x3, ca, sl, S => cd (40 < x3) (fn_X4_read_112 x2 ca sl S) (cd ((gI S 2 6) = 0) (cd ((gI S 2 5) = 259) (fn_X4_read_112 x2 ca sl S) (bn (some (gI S 2 3)) (fun v1 => gd (gK S x2 = 0) (bn2 (fl_size x2 S) (fun r4 S3 => bn2 (fn_X4_takeFirstWord r4 S3) (fun r6 S5 => cd (r6 = (-1)) (fn_X4_read_106 (fn_X4_read_15 n) x2 x3 ca sl S5) (cd (r6 = 6) (gd (ca + 2 ≤ 130 ∧ sl + 18 ≤ 4100) (bn2 (fn_X4_readEnd S5) (fun r12 S10 => fn_X4_read_80 (fn_X4_read_15 n) x2 x3 v1 r12 (ca + 2) (sl + 18) S10))) (gd (ca + 2 ≤ 130 ∧ sl + 18 ≤ 4100) (bn2 (fn_X4_readBody r6 S5) (fun r9 S7 => fn_X4_read_80 (fn_X4_read_15 n) x2 x3 v1 r9 (ca + 2) (sl + 18) S7)))))))))) (fn_X4_read_112 x2 ca sl S))
noncomputable def fn_X4_read (x1 : Int32) (S : HS) : Option (Option Nat × HS) := bn (some (aN S 11 0)) (fun S1 => bn (fl_init (gZ S) S1) (fun S2 => bn (fn_X4_begin x1 S2) (fun S3 => fn_X4_read_15 hFuel (gZ S) 0 1 3 S3)))
/-! yX8_agree -/
noncomputable def fn_X8_agree_31  (ca : Nat) (sl : Nat) (S : HS) : Option (Int32 × HS) := some ((-2), S)
noncomputable def fn_X8_agree (x1 : Int32) (x2 : Int32) (S : HS) : Option (Int32 × HS) := cd (x1 < 0) (fn_X8_agree_31 0 0 S) (cd ((gI S 0 14) < x1) (fn_X8_agree_31 0 0 S) (bn2 (fn_X8_isDay x2 S) (fun r2 S1 => cd (r2 = 0) (fn_X8_agree_31 0 0 S1) (bn2 (fl_size 4 S1) (fun r4 S3 => cd (r4 < 12) (bn (some (sI S3 0 14 0)) (fun S5 => bn2 (fn_X4_read x1 S5) (fun r7 S6 => cd ((gI S6 2 6) = 0) (bn (some (aN S6 1 0)) (fun S8 => bn2 (fl_size 4 S8) (fun r10 S9 => bn (r7) (fun c11 => bn (fn_X0_init (gZ S6) r10 x2 (gI S9 0 13) c11 S9) (fun S12 => bn2 (fn_X8_placeOfAgreement x2 S12) (fun r14 S13 => bn (fl_addAt 4 r14 (gZ S6) 80 S13) (fun S15 => bn (r7) (fun c16 => gd (gK S15 c16 = 0) (bn2 (fl_size c16 S15) (fun r19 S18 => bn (some (sI S18 0 15 ((gI S15 0 15) + r19))) (fun S20 => gd (gK S20 (gZ S6) = 1) (some (gI S20 (gZ S6) 0, S20))))))))))))) (some ((-1), S6))))) (fn_X8_agree_31 0 0 S3))))))
/-! yX8_note -/
noncomputable def fn_X8_note_37  (ca : Nat) (sl : Nat) (S : HS) : Option (Int32 × HS) := some ((-1), S)
noncomputable def fn_X8_note (x1 : Int32) (x2 : Int32) (x3 : Int32) (x4 : Int32) (S : HS) : Option (Int32 × HS) := bn2 (fn_X8_isPost x1 S) (fun r2 S1 => cd (r2 = 0) (fn_X8_note_37 0 0 S1) (bn2 (fn_X8_isDay x3 S1) (fun r4 S3 => cd (r4 = 0) (fn_X8_note_37 0 0 S3) (bn2 (fn_X8_canBecome x2 x4 S3) (fun r6 S5 => cd (r6 = 0) (fn_X8_note_37 0 0 S5) (bn2 (fl_size 5 S5) (fun r8 S7 => cd (r8 < 200) (bn2 (fn_X8_placeOfNote x3 S7) (fun r10 S9 => bn (some (aN S9 4 0)) (fun S11 => bn (fn_X3_init (gZ S9) x1 x2 x3 (gI S11 0 13) x4 S11) (fun S12 => bn (fl_addAt 5 r10 (gZ S9) 300 S12) (fun S13 => bn2 (fl_size 5 S13) (fun r15 S14 => some (r15, S14))))))) (fn_X8_note_37 0 0 S7))))))))
