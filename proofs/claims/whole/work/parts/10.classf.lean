/-! J7.fill_53178 -/
noncomputable def fn_J7_fill_53178_5  : Nat → Nat → Int32 → Int32 → Int32 → HS → Option HS
  | 0, _, _, _, _, _ => none
  | n + 1, x0, x1, x2, x3, S => cd (x3 ≤ x2) (some S) (gd (gK S x0 = 21) (gd (vp_in x2 (gN S x0)) (bn (some (sI S x0 x2.toNatClampNeg x1)) (fun S3 => bn (some (x2 + 1)) (fun v4 => (fn_J7_fill_53178_5 n) x0 x1 v4 x3 S3)))))
noncomputable def fn_J7_fill_53178 (x0 : Nat) (x1 : Int32) (S : HS) : Option HS := gd (gK S x0 = 21) (bn (some (nI (gN S x0))) (fun v2 => fn_J7_fill_53178_5 hFuel x0 x1 0 v2 S))
/-! X5.clear -/
noncomputable def fn_X5_clear (x0 : Nat) (S : HS) : Option HS := gd (gK S x0 = 6) (bn (some (sI S x0 2 0)) (fun S2 => some S2))
/-! X5.cell -/
noncomputable def fn_X5_cell_58  (y0 : Int64) (S : HS) : Option (Int64 × HS) := some (y0, S)
noncomputable def fn_X5_cell_24   (S : HS) : Option (Int64 × HS) := some ((-1), S)
noncomputable def fn_X5_cell (x0 : Nat) (x1 : Int32) (x2 : Int32) (S : HS) : Option (Int64 × HS) := cd (x1 < 0) (fn_X5_cell_24 S) (gd (gK S x0 = 6) (cd ((gI S x0 2) ≤ x1) (fn_X5_cell_24 S) (cd (x2 < 0) (fn_X5_cell_24 S) (gd (gK S x0 = 6) (cd (x2 < (gI S x0 0)) (gd (gK S x0 = 6) (bn (some ((x1 * (gI S x0 0)) + x2)) (fun v4 => gd (gK S x0 = 6) (bn (gR S x0 1) (fun c6 => gd (gK S c6 = 22) (cd ((nI (gN S c6)) ≤ v4) (fn_X5_cell_58 (-1) S) (gd (gK S x0 = 6) (bn (gR S x0 1) (fun c9 => gd (gK S c9 = 22) (gd (vp_in v4 (gN S c9)) (fn_X5_cell_58 (gJ S c9 v4.toNatClampNeg) S))))))))))) (fn_X5_cell_24 S))))))
/-! X5.put -/
noncomputable def fn_X5_put_39   (S : HS) : Option HS := some S
noncomputable def fn_X5_put (x0 : Nat) (x1 : Int32) (x2 : Int64) (S : HS) : Option HS := gd (gK S x0 = 6) (gd (gK S x0 = 6) (bn (some (((gI S x0 2) * (gI S x0 0)) + x1)) (fun v3 => gd (gK S x0 = 6) (cd ((gI S x0 0) ≤ x1) (fn_X5_put_39 S) (gd (gK S x0 = 6) (bn (gR S x0 1) (fun c6 => gd (gK S c6 = 22) (cd ((nI (gN S c6)) ≤ v3) (fn_X5_put_39 S) (gd (gK S x0 = 6) (bn (gR S x0 1) (fun c9 => gd (gK S c9 = 22) (gd (vp_in v3 (gN S c9)) (bn (some (sJ S c9 v3.toNatClampNeg x2)) (fun S12 => fn_X5_put_39 S12))))))))))))))
/-! X5.add -/
noncomputable def fn_X5_add (x0 : Nat) (x1 : Int64) (x3 : Int64) (x5 : Int64) (x7 : Int64) (S : HS) : Option HS := gd (gK S x0 = 6) (gd (gK S x0 = 6) (gd (gK S x0 = 6) (bn (gR S x0 1) (fun c4 => gd (gK S c4 = 22) (cd ((((gI S x0 2) + 1) * (gI S x0 0)) ≤ (nI (gN S c4))) (gd (gK S x0 = 6) (bn (fn_X5_put x0 0 x1 S) (fun S7 => gd (gK S7 x0 = 6) (bn (fn_X5_put x0 1 x3 S7) (fun S9 => gd (gK S9 x0 = 6) (bn (fn_X5_put x0 2 x5 S9) (fun S11 => gd (gK S11 x0 = 6) (bn (fn_X5_put x0 3 x7 S11) (fun S13 => gd (gK S13 x0 = 6) (gd (gK S13 x0 = 6) (bn (some (sI S13 x0 2 ((gI S13 x0 2) + 1))) (fun S16 => some S16)))))))))))) (some S))))))
/-! X2.key -/
noncomputable def fn_X2_key (x0 : Nat) (S : HS) : Option (Int32 × HS) := gd (gK S x0 = 3) (gd (gK S x0 = 3) (some (((gI S x0 0) * 26) + (gI S x0 4), S)))
/-! X2.holds -/
noncomputable def fn_X2_holds_86  (y0 : Int32) (S : HS) : Option (Int32 × HS) := gd (y0 = 0 ∨ y0 = 1) (some (y0, S))
noncomputable def fn_X2_holds_47  (y0 : Int32) (S : HS) : Option (Int32 × HS) := gd (y0 = 0 ∨ y0 = 1) (some (y0, S))
noncomputable def fn_X2_holds_16   (S : HS) : Option (Int32 × HS) := some (1, S)
noncomputable def fn_X2_holds (x0 : Nat) (S : HS) : Option (Int32 × HS) := gd (gK S x0 = 3) (cd ((gI S x0 5) < 0) (fn_X2_holds_16 S) (gd (gK S x0 = 3) (cd ((gI S x0 5) < (nI 9)) (gd (gK S x0 = 3) (gd (vp_in (gI S x0 5) 9) (bn (some (gI S 13 (gI S x0 5 : Int32).toNatClampNeg)) (fun v5 => gd (gK S x0 = 3) (cd ((gI S x0 6) = 60) (gd (gK S x0 = 3) (cd ((gI S x0 7) ≤ v5) (fn_X2_holds_47 0 S) (fn_X2_holds_47 1 S))) (gd (gK S x0 = 3) (cd ((gI S x0 6) = 62) (gd (gK S x0 = 3) (cd (v5 ≤ (gI S x0 7)) (fn_X2_holds_86 0 S) (fn_X2_holds_86 1 S))) (gd (gK S x0 = 3) (cd (v5 = (gI S x0 7)) (fn_X2_holds_86 1 S) (fn_X2_holds_86 0 S)))))))))) (fn_X2_holds_16 S))))
/-! X2.addToScale -/
noncomputable def fn_X2_addToScale_32   (S : HS) : Option HS := some S
noncomputable def fn_X2_addToScale (x0 : Nat) (x1 : Int32) (S : HS) : Option HS := gd (gK S x0 = 3) (gd (gK S x0 = 3) (bn (gR S x0 2) (fun c3 => gd (gK S c3 = 21) (cd ((nI (gN S c3)) ≤ (gI S x0 3)) (fn_X2_addToScale_32 S) (gd (gK S x0 = 3) (gd (gK S x0 = 3) (bn (gR S x0 2) (fun c7 => gd (gK S c7 = 21) (gd (vp_in (gI S x0 3) (gN S c7)) (bn (some (sI S c7 (gI S x0 3 : Int32).toNatClampNeg x1)) (fun S10 => gd (gK S10 x0 = 3) (gd (gK S10 x0 = 3) (bn (some (sI S10 x0 3 ((gI S10 x0 3) + 1))) (fun S13 => fn_X2_addToScale_32 S13))))))))))))))
/-! X2.scaleNumber -/
noncomputable def fn_X2_scaleNumber_31  (y0 : Int32) (S : HS) : Option (Int32 × HS) := some (y0, S)
noncomputable def fn_X2_scaleNumber_30   (S : HS) : Option (Int32 × HS) := fn_X2_scaleNumber_31 0 S
noncomputable def fn_X2_scaleNumber (x0 : Nat) (x1 : Int32) (S : HS) : Option (Int32 × HS) := cd (x1 < 0) (fn_X2_scaleNumber_30 S) (gd (gK S x0 = 3) (cd ((gI S x0 3) ≤ x1) (fn_X2_scaleNumber_30 S) (gd (gK S x0 = 3) (bn (gR S x0 2) (fun c3 => gd (gK S c3 = 21) (cd ((nI (gN S c3)) ≤ x1) (fn_X2_scaleNumber_30 S) (gd (gK S x0 = 3) (bn (gR S x0 2) (fun c6 => gd (gK S c6 = 21) (gd (vp_in x1 (gN S c6)) (fn_X2_scaleNumber_31 (gI S c6 x1.toNatClampNeg) S)))))))))))
/-! X6.clear -/
noncomputable def fn_X6_clear_2  : Nat → Int32 → HS → Option HS
  | 0, _, _ => none
  | n + 1, x1, S => cd ((nI 156) ≤ x1) (bn (fn_J7_fill_53178 10 0 S) (fun S1 => some S1)) (gd (vp_in x1 156) (bn (some (sR S 8 x1.toNatClampNeg none)) (fun S3 => bn (some (x1 + 1)) (fun v4 => (fn_X6_clear_2 n) v4 S3))))
noncomputable def fn_X6_clear  (S : HS) : Option HS := fn_X6_clear_2 hFuel 0 S
/-! X6.take -/
noncomputable def fn_X6_take_74 (k2 : Nat → Int32 → HS → Option HS) (x1 : Nat) (x2 : Int32) (S : HS) : Option HS := bn (some (x2 + 1)) (fun v1 => k2 x1 v1 S)
noncomputable def fn_X6_take_2  : Nat → Nat → Int32 → HS → Option HS
  | 0, _, _, _ => none
  | n + 1, x1, x2, S => gd (gK S x1 = 1) (bn (gR S x1 3) (fun c2 => gd (gK S c2 = 0) (bn2 (fl_size c2 S) (fun r5 S4 => cd (r5 ≤ x2) (some S4) (gd (gK S4 x1 = 1) (bn (gR S4 x1 3) (fun c7 => gd (gK S4 c7 = 0) (bn2 (fl_get c7 x2 S4) (fun r10 S9 => bn (r10) (fun c11 => gd (gK S9 c11 = 3) (gd (gK S9 c11 = 3) (bn2 (fn_X2_key c11 S9) (fun r15 S14 => cd (r15 < 0) (fn_X6_take_74 (fn_X6_take_2 n) x1 x2 S14) (cd (156 ≤ r15) (fn_X6_take_74 (fn_X6_take_2 n) x1 x2 S14) (gd (vp_in r15 156) (gd (gK S14 c11 = 3) (bn (some (sR S14 8 r15.toNatClampNeg (some c11))) (fun S18 => gd (gK S18 x1 = 1) (gd (vp_in r15 156) (bn (some (sI S18 9 r15.toNatClampNeg (gI S18 x1 0))) (fun S21 => gd (vp_in r15 156) (gd (vp_in r15 156) (bn (some (sI S21 10 r15.toNatClampNeg ((gI S21 10 r15.toNatClampNeg) + 1))) (fun S24 => fn_X6_take_74 (fn_X6_take_2 n) x1 x2 S24))))))))))))))))))))))))
noncomputable def fn_X6_take (x1 : Nat) (S : HS) : Option HS := fn_X6_take_2 hFuel x1 0 S
/-! X6.winnerOf -/
noncomputable def fn_X6_winnerOf_23  (y0 : Option Nat) (S : HS) : Option (Option Nat × HS) := some (y0, S)
noncomputable def fn_X6_winnerOf_22   (S : HS) : Option (Option Nat × HS) := fn_X6_winnerOf_23 none S
noncomputable def fn_X6_winnerOf (x1 : Int32) (S : HS) : Option (Option Nat × HS) := cd (x1 < 0) (fn_X6_winnerOf_22 S) (cd ((nI 156) ≤ x1) (fn_X6_winnerOf_22 S) (gd (vp_in x1 156) (fn_X6_winnerOf_23 (gR S 8 x1.toNatClampNeg) S)))
/-! X6.agreementOf -/
noncomputable def fn_X6_agreementOf_23  (y0 : Int32) (S : HS) : Option (Int32 × HS) := some (y0, S)
noncomputable def fn_X6_agreementOf_22   (S : HS) : Option (Int32 × HS) := fn_X6_agreementOf_23 (-1) S
noncomputable def fn_X6_agreementOf (x1 : Int32) (S : HS) : Option (Int32 × HS) := cd (x1 < 0) (fn_X6_agreementOf_22 S) (cd ((nI 156) ≤ x1) (fn_X6_agreementOf_22 S) (gd (vp_in x1 156) (fn_X6_agreementOf_23 (gI S 9 x1.toNatClampNeg) S)))
/-! X6.linesOf -/
noncomputable def fn_X6_linesOf_23  (y0 : Int32) (S : HS) : Option (Int32 × HS) := some (y0, S)
noncomputable def fn_X6_linesOf_22   (S : HS) : Option (Int32 × HS) := fn_X6_linesOf_23 0 S
noncomputable def fn_X6_linesOf (x1 : Int32) (S : HS) : Option (Int32 × HS) := cd (x1 < 0) (fn_X6_linesOf_22 S) (cd ((nI 156) ≤ x1) (fn_X6_linesOf_22 S) (gd (vp_in x1 156) (fn_X6_linesOf_23 (gI S 10 x1.toNatClampNeg) S)))
/-! X6.lineOf -/
noncomputable def fn_X6_lineOf_63  (y0 : Option Nat) (S : HS) : Option (Option Nat × HS) := some (y0, S)
noncomputable def fn_X6_lineOf_57   (S : HS) : Option (Option Nat × HS) := fn_X6_lineOf_63 none S
noncomputable def fn_X6_lineOf_42  (y0 : Option Nat) (S : HS) : Option (Option Nat × HS) := cs (y0) (fn_X6_lineOf_57 S) (fun c1 => bn (y0) (fun c2 => gd (gK S c2 = 3) (cd ((gI S c2 1) = 0) (fn_X6_lineOf_63 y0 S) (fn_X6_lineOf_57 S))))
noncomputable def fn_X6_lineOf_41   (S : HS) : Option (Option Nat × HS) := fn_X6_lineOf_42 none S
noncomputable def fn_X6_lineOf_10   (S : HS) : Option (Option Nat × HS) := some (none, S)
noncomputable def fn_X6_lineOf (x1 : Int32) (x2 : Int32) (S : HS) : Option (Option Nat × HS) := cd (x2 < 0) (fn_X6_lineOf_10 S) (cd (x2 < 26) (bn (some ((x1 * 26) + x2)) (fun v1 => cd (v1 < 0) (fn_X6_lineOf_41 S) (cd ((nI 156) ≤ v1) (fn_X6_lineOf_41 S) (gd (vp_in v1 156) (fn_X6_lineOf_42 (gR S 8 v1.toNatClampNeg) S))))) (fn_X6_lineOf_10 S))
/-! X6.numberOf -/
noncomputable def fn_X6_numberOf_19  (y0 : Int32) (S : HS) : Option (Int32 × HS) := some (y0, S)
noncomputable def fn_X6_numberOf (x1 : Int32) (x2 : Int32) (S : HS) : Option (Int32 × HS) := bn2 (fn_X6_lineOf x1 0 S) (fun r2 S1 => cs (r2) (fn_X6_numberOf_19 x2 S1) (fun c3 => bn (r2) (fun c4 => gd (gK S1 c4 = 3) (fn_X6_numberOf_19 (gI S1 c4 8) S1))))
/-! X6.pointsBy -/
noncomputable def fn_X6_pointsBy_40 (k4 : Int32 → Int32 → HS → Option (Int32 × HS)) (x2 : Int32) (x3 : Int32) (S : HS) : Option (Int32 × HS) := bn (some (x3 + 1)) (fun v1 => k4 x2 v1 S)
noncomputable def fn_X6_pointsBy_4  : Nat → Int32 → Int32 → HS → Option (Int32 × HS)
  | 0, _, _, _ => none
  | n + 1, x2, x3, S => cd (26 ≤ x3) (some (x2, S)) (bn2 (fn_X6_lineOf 0 x3 S) (fun r2 S1 => cs (r2) (fn_X6_pointsBy_40 (fn_X6_pointsBy_4 n) x2 x3 S1) (fun c3 => bn (r2) (fun c4 => gd (gK S1 c4 = 3) (bn2 (fn_X2_holds c4 S1) (fun r7 S6 => cd (r7 = 0) (fn_X6_pointsBy_40 (fn_X6_pointsBy_4 n) x2 x3 S6) (bn (r2) (fun c8 => gd (gK S6 c8 = 3) (bn (some (x2 + (gI S6 c8 8))) (fun v10 => fn_X6_pointsBy_40 (fn_X6_pointsBy_4 n) v10 x3 S6))))))))))
noncomputable def fn_X6_pointsBy  (S : HS) : Option (Int32 × HS) := fn_X6_pointsBy_4 hFuel 0 0 S
/-! X6.gradeBy -/
noncomputable def fn_X6_gradeBy_55 (k7 : Int32 → Int32 → Int32 → Int32 → HS → Option (Int32 × HS)) (x1 : Int32) (x2 : Int32) (x3 : Int32) (x4 : Int32) (S : HS) : Option (Int32 × HS) := bn (some (x4 + 1)) (fun v1 => k7 x1 x2 x3 v1 S)
noncomputable def fn_X6_gradeBy_7  : Nat → Int32 → Int32 → Int32 → Int32 → HS → Option (Int32 × HS)
  | 0, _, _, _, _, _ => none
  | n + 1, x1, x2, x3, x4, S => cd (26 ≤ x4) (some (x2, S)) (bn2 (fn_X6_lineOf 1 x4 S) (fun r2 S1 => cs (r2) (fn_X6_gradeBy_55 (fn_X6_gradeBy_7 n) x1 x2 x3 x4 S1) (fun c3 => bn (r2) (fun c4 => gd (gK S1 c4 = 3) (cd (x1 < (gI S1 c4 8)) (fn_X6_gradeBy_55 (fn_X6_gradeBy_7 n) x1 x2 x3 x4 S1) (bn (r2) (fun c6 => gd (gK S1 c6 = 3) (cd ((gI S1 c6 8) ≤ x3) (fn_X6_gradeBy_55 (fn_X6_gradeBy_7 n) x1 x2 x3 x4 S1) (bn (r2) (fun c8 => gd (gK S1 c8 = 3) (bn (some (gI S1 c8 8)) (fun v10 => fn_X6_gradeBy_55 (fn_X6_gradeBy_7 n) x1 x4 v10 x4 S1))))))))))))
noncomputable def fn_X6_gradeBy (x1 : Int32) (S : HS) : Option (Int32 × HS) := fn_X6_gradeBy_7 hFuel x1 (-1) (-1) 0 S
/-! X6.amountBy -/
noncomputable def fn_X6_amountBy_61 (k8 : Int32 → Int32 → Int32 → HS → Option (Int32 × HS)) (x1 : Int32) (x3 : Int32) (x4 : Int32) (S : HS) : Option (Int32 × HS) := bn (some (x4 + 1)) (fun v1 => k8 x1 x3 v1 S)
noncomputable def fn_X6_amountBy_58 (k8 : Int32 → Int32 → Int32 → HS → Option (Int32 × HS)) (x1 : Int32) (x4 : Int32) (y0 : Int32) (y1 : Int32) (y2 : Int32) (S : HS) : Option (Int32 × HS) := bn (some (y2 + (y1 * y0))) (fun v1 => fn_X6_amountBy_61 k8 x1 v1 x4 S)
noncomputable def fn_X6_amountBy_8  : Nat → Int32 → Int32 → Int32 → HS → Option (Int32 × HS)
  | 0, _, _, _, _ => none
  | n + 1, x1, x3, x4, S => cd (26 ≤ x4) (some (x3, S)) (bn2 (fn_X6_lineOf 5 x4 S) (fun r2 S1 => cs (r2) (fn_X6_amountBy_61 (fn_X6_amountBy_8 n) x1 x3 x4 S1) (fun c3 => bn (r2) (fun c4 => gd (gK S1 c4 = 3) (bn2 (fn_X2_holds c4 S1) (fun r7 S6 => cd (r7 = 0) (fn_X6_amountBy_61 (fn_X6_amountBy_8 n) x1 x3 x4 S6) (bn (r2) (fun c8 => gd (gK S6 c8 = 3) (bn (r2) (fun c10 => gd (gK S6 c10 = 3) (cd ((gI S6 c10 9) = 0) (fn_X6_amountBy_58 (fn_X6_amountBy_8 n) x1 x4 100 (gI S6 c8 8) x3 S6) (fn_X6_amountBy_58 (fn_X6_amountBy_8 n) x1 x4 x1 (gI S6 c8 8) x3 S6))))))))))))
noncomputable def fn_X6_amountBy (x1 : Int32) (S : HS) : Option (Int32 × HS) := bn (some (100 * x1)) (fun v1 => fn_X6_amountBy_8 hFuel x1 v1 0 S)
/-! X1.stepAfter -/
noncomputable def fn_X1_stepAfter_14   (S : HS) : Option (Int32 × HS) := some ((-1), S)
noncomputable def fn_X1_stepAfter (x1 : Int32) (S : HS) : Option (Int32 × HS) := cs (gR S 12 0) (fn_X1_stepAfter_14 S) (fun c1 => cd (0 < (gI S 12 1)) (gd (¬ (gI S 12 1) = 0) (bn (gR S 12 0) (fun c2 => gd (gK S c2 = 3) (some (jmin (x1 / (gI S 12 1)) ((gI S c2 3) - 1), S))))) (fn_X1_stepAfter_14 S))
/-! X1.moveStep -/
noncomputable def fn_X1_moveStep_25  (y0 : Int32) (S : HS) : Option HS := bn (some (sI S 12 5 y0)) (fun S1 => bn2 (fn_X6_amountBy (gI S1 12 5) S1) (fun r3 S2 => bn (some (sI S2 12 6 r3)) (fun S4 => some S4)))
noncomputable def fn_X1_moveStep (x3 : Int32) (S : HS) : Option HS := bn (some (sI S 12 4 x3)) (fun S1 => cs (gR S1 12 0) (fn_X1_moveStep_25 0 S1) (fun c2 => bn (gR S1 12 0) (fun c3 => gd (gK S1 c3 = 3) (bn2 (fn_X2_scaleNumber c3 x3 S1) (fun r6 S5 => fn_X1_moveStep_25 r6 S5)))))
/-! X1.renew -/
noncomputable def fn_X1_renew (x3 : Int32) (S : HS) : Option HS := bn2 (fn_X6_pointsBy S) (fun r2 S1 => bn (some (sI S1 12 2 r2)) (fun S3 => bn2 (fn_X6_gradeBy (gI S3 12 2) S3) (fun r5 S4 => bn (some (sI S4 12 3 r5)) (fun S6 => bn2 (fn_X6_lineOf 2 (gI S6 12 3) S6) (fun r8 S7 => bn (some (sR S7 12 0 r8)) (fun S9 => bn2 (fn_X6_numberOf 3 360 S9) (fun r11 S10 => bn (some (sI S10 12 1 r11)) (fun S12 => bn2 (fn_X1_stepAfter x3 S12) (fun r14 S13 => bn (fn_X1_moveStep r14 S13) (fun S15 => some S15))))))))))
/-! X1.follow -/
noncomputable def fn_X1_follow_24   (S : HS) : Option HS := some S
noncomputable def fn_X1_follow (x3 : Int32) (S : HS) : Option HS := bn2 (fn_X1_stepAfter x3 S) (fun r2 S1 => cd (r2 = (gI S1 12 4)) (fn_X1_follow_24 S1) (bn (fn_X1_moveStep r2 S1) (fun S3 => fn_X1_follow_24 S3)))
/-! X1.daysToNextStep -/
noncomputable def fn_X1_daysToNextStep_57  (y0 : Int32) (S : HS) : Option (Int32 × HS) := some (y0, S)
noncomputable def fn_X1_daysToNextStep_35  (x1 : Int32) (y0 : Int32) (S : HS) : Option (Int32 × HS) := cd (y0 = 0) (fn_X1_daysToNextStep_57 1200 S) (gd (¬ (gI S 12 1) = 0) (fn_X1_daysToNextStep_57 ((gI S 12 1) - (x1 - x1 / (gI S 12 1) * (gI S 12 1))) S))
noncomputable def fn_X1_daysToNextStep_34  (x1 : Int32) (S : HS) : Option (Int32 × HS) := fn_X1_daysToNextStep_35 x1 0 S
noncomputable def fn_X1_daysToNextStep (x1 : Int32) (S : HS) : Option (Int32 × HS) := cs (gR S 12 0) (fn_X1_daysToNextStep_34 x1 S) (fun c1 => cd ((gI S 12 1) ≤ 0) (fn_X1_daysToNextStep_34 x1 S) (bn (gR S 12 0) (fun c2 => gd (gK S c2 = 3) (cd (((gI S c2 3) - 1) ≤ (gI S 12 4)) (fn_X1_daysToNextStep_34 x1 S) (fn_X1_daysToNextStep_35 x1 1 S)))))
/-! X7.isHeld -/
noncomputable def fn_X7_isHeld_16  (y0 : Int32) (S : HS) : Option (Int32 × HS) := gd (y0 = 0 ∨ y0 = 1) (some (y0, S))
noncomputable def fn_X7_isHeld  (S : HS) : Option (Int32 × HS) := gd (vp_in 6 9) (cd ((gI S 13 (6 : Int32).toNatClampNeg) = 1) (fn_X7_isHeld_16 1 S) (fn_X7_isHeld_16 0 S))
/-! X7.give -/
noncomputable def fn_X7_give_86   (S : HS) : Option HS := some S
noncomputable def fn_X7_give_30   (S : HS) : Option HS := bn2 (fn_X7_isHeld S) (fun r2 S1 => cd (r2 = 0) (bn (some (sI S1 11 17 0)) (fun S6 => fn_X7_give_86 S6)) (cd ((gI S1 12 6) < (gI S1 11 16)) (bn (some (sI S1 11 17 (gI S1 11 16))) (fun S3 => fn_X7_give_86 S3)) (bn (some (sI S1 11 16 0)) (fun S4 => bn (some (sI S4 11 17 (gI S4 12 6))) (fun S5 => fn_X7_give_86 S5)))))
noncomputable def fn_X7_give_27  (y0 : Int32) (S : HS) : Option HS := bn (some (sI S 11 16 y0)) (fun S1 => fn_X7_give_30 S1)
noncomputable def fn_X7_give  (S : HS) : Option HS := cd ((gI S 11 13) = 0) (fn_X7_give_30 S) (gd (vp_in 8 9) (cd ((gI S 13 (8 : Int32).toNatClampNeg) = 1) (fn_X7_give_27 (gI S 11 17) S) (fn_X7_give_27 0 S)))
/-! X7.takeNote -/
noncomputable def fn_X7_takeNote_113   (S : HS) : Option HS := some S
noncomputable def fn_X7_takeNote_99  (x1 : Nat) (S : HS) : Option HS := gd (gK S x1 = 4) (cd ((gI S x1 1) = 8) (bn (some (sI S 11 13 1)) (fun S2 => fn_X7_takeNote_113 S2)) (fn_X7_takeNote_113 S))
noncomputable def fn_X7_takeNote_71   (S : HS) : Option HS := some S
noncomputable def fn_X7_takeNote_41  (x1 : Nat) (S : HS) : Option HS := gd (gK S x1 = 4) (cd ((gI S x1 0) = (gI S 11 7)) (gd (gK S x1 = 4) (cd ((gI S x1 1) < 0) (fn_X7_takeNote_71 S) (gd (gK S x1 = 4) (cd ((gI S x1 1) < (nI 9)) (gd (gK S x1 = 4) (gd (gK S x1 = 4) (gd (vp_in (gI S x1 1) 9) (bn (some (sI S 13 (gI S x1 1 : Int32).toNatClampNeg (gI S x1 4))) (fun S7 => gd (gK S7 x1 = 4) (cd (6 ≤ (gI S7 x1 1)) (fn_X7_takeNote_99 x1 S7) (bn (some (sI S7 11 12 1)) (fun S9 => fn_X7_takeNote_99 x1 S9)))))))) (fn_X7_takeNote_71 S))))) (fn_X7_takeNote_71 S))
noncomputable def fn_X7_takeNote (x1 : Nat) (S : HS) : Option HS := gd (gK S x1 = 4) (cd ((gI S x1 1) = 6) (gd (gK S x1 = 4) (cd ((gI S x1 0) < 0) (fn_X7_takeNote_41 x1 S) (gd (gK S x1 = 4) (cd ((nI 8) ≤ (gI S x1 0)) (fn_X7_takeNote_41 x1 S) (gd (gK S x1 = 4) (gd (gK S x1 = 4) (gd (vp_in (gI S x1 0) 8) (bn (some (sI S 14 (gI S x1 0 : Int32).toNatClampNeg (gI S x1 4))) (fun S7 => fn_X7_takeNote_41 x1 S7))))))))) (fn_X7_takeNote_41 x1 S))
/-! X7.takeNotes -/
noncomputable def fn_X7_takeNotes_61 (k10 : Int32 → HS → Option HS) (x1 : Int32) (S : HS) : Option HS := bn (some (sI S 11 11 ((gI S 11 11) + 1))) (fun S1 => bn (some (x1 + 1)) (fun v2 => k10 v2 S1))
noncomputable def fn_X7_takeNotes_10  : Nat → Int32 → HS → Option HS
  | 0, _, _ => none
  | n + 1, x1, S => bn2 (fl_size 5 S) (fun r2 S1 => cd (r2 ≤ x1) (some S1) (bn2 (fl_get 5 x1 S1) (fun r4 S3 => bn (r4) (fun c5 => gd (gK S3 c5 = 4) (gd (gK S3 c5 = 4) (cd ((gI S3 c5 2) ≤ (gI S3 11 9)) (gd (gK S3 c5 = 4) (cd ((gI S3 11 8) < (gI S3 c5 3)) (fn_X7_takeNotes_61 (fn_X7_takeNotes_10 n) x1 S3) (bn (fn_X7_takeNote c5 S3) (fun S9 => fn_X7_takeNotes_61 (fn_X7_takeNotes_10 n) x1 S9)))) (some S3)))))))
noncomputable def fn_X7_takeNotes  (S : HS) : Option HS := bn (some (sI S 11 13 0)) (fun S1 => bn (some (gI S1 11 11)) (fun v2 => fn_X7_takeNotes_10 hFuel v2 S1))
/-! X7.takeAgreements -/
noncomputable def fn_X7_takeAgreements_64 (k5 : Int32 → HS → Option HS) (x1 : Int32) (S : HS) : Option HS := bn (some (sI S 11 10 ((gI S 11 10) + 1))) (fun S1 => bn (some (x1 + 1)) (fun v2 => k5 v2 S1))
noncomputable def fn_X7_takeAgreements_5  : Nat → Int32 → HS → Option HS
  | 0, _, _ => none
  | n + 1, x1, S => bn2 (fl_size 4 S) (fun r2 S1 => cd (r2 ≤ x1) (some S1) (bn2 (fl_get 4 x1 S1) (fun r4 S3 => bn (r4) (fun c5 => gd (gK S3 c5 = 1) (gd (gK S3 c5 = 1) (cd ((gI S3 c5 1) ≤ (gI S3 11 9)) (gd (gK S3 c5 = 1) (cd ((gI S3 11 8) < (gI S3 c5 2)) (fn_X7_takeAgreements_64 (fn_X7_takeAgreements_5 n) x1 S3) (bn (fn_X6_take c5 S3) (fun S9 => bn (some (sI S9 11 12 1)) (fun S10 => fn_X7_takeAgreements_64 (fn_X7_takeAgreements_5 n) x1 S10))))) (some S3)))))))
noncomputable def fn_X7_takeAgreements  (S : HS) : Option HS := bn (some (gI S 11 10)) (fun v1 => fn_X7_takeAgreements_5 hFuel v1 S)
/-! X7.openDay -/
noncomputable def fn_X7_openDay_56   (S : HS) : Option HS := bn (some (sI S 11 12 0)) (fun S1 => bn (fn_X7_give S1) (fun S2 => some S2))
noncomputable def fn_X7_openDay  (S : HS) : Option HS := bn (fn_X7_takeAgreements S) (fun S1 => bn (fn_X7_takeNotes S1) (fun S2 => cd ((gI S2 11 12) = 0) (bn (fn_X1_follow (gI S2 11 14) S2) (fun S3 => fn_X7_openDay_56 S3)) (bn (fn_X1_renew (gI S2 11 14) S2) (fun S4 => fn_X7_openDay_56 S4))))
/-! X7.isServing -/
noncomputable def fn_X7_isServing_79   (S : HS) : Option (Int32 × HS) := some (0, S)
noncomputable def fn_X7_isServing_73 (k33 : Int32 → Int32 → HS → Option (Int32 × HS)) (x1 : Int32) (x2 : Int32) (S : HS) : Option (Int32 × HS) := bn (some (x2 + 1)) (fun v1 => k33 x1 v1 S)
noncomputable def fn_X7_isServing_33  : Nat → Int32 → Int32 → HS → Option (Int32 × HS)
  | 0, _, _, _ => none
  | n + 1, x1, x2, S => cd ((nI 8) ≤ x2) (fn_X7_isServing_79 S) (cd ((nI 8) ≤ x2) (fn_X7_isServing_79 S) (gd (vp_in x2 8) (cd ((gI S 14 x2.toNatClampNeg) = 1) (gd (vp_in x2 8) (cd ((gI S 6 x2.toNatClampNeg) = x1) (some (1, S)) (fn_X7_isServing_73 (fn_X7_isServing_33 n) x1 x2 S))) (fn_X7_isServing_73 (fn_X7_isServing_33 n) x1 x2 S))))
noncomputable def fn_X7_isServing_19   (S : HS) : Option (Int32 × HS) := some (0, S)
noncomputable def fn_X7_isServing  (S : HS) : Option (Int32 × HS) := cd ((gI S 11 7) < 0) (fn_X7_isServing_19 S) (cd ((gI S 11 7) < (nI 8)) (gd (vp_in (gI S 11 7) 8) (bn (some (gI S 6 (gI S 11 7 : Int32).toNatClampNeg)) (fun v2 => fn_X7_isServing_33 hFuel v2 0 S))) (fn_X7_isServing_19 S))
/-! X7.passDays -/
noncomputable def fn_X7_passDays_64   (S : HS) : Option HS := some S
noncomputable def fn_X7_passDays (x1 : Int32) (S : HS) : Option HS := bn (some (sI S 11 9 ((gI S 11 9) + x1))) (fun S1 => bn2 (fn_X7_isServing S1) (fun r3 S2 => cd (r3 = 0) (bn (some (sI S2 11 15 ((gI S2 11 15) + x1))) (fun S4 => bn2 (fn_X6_numberOf 4 0 S4) (fun r6 S5 => cd ((gI S4 11 15) ≤ r6) (fn_X7_passDays_64 S5) (bn (some (sI S5 11 14 0)) (fun S7 => fn_X7_passDays_64 S7))))) (bn (some (sI S2 11 14 ((gI S2 11 14) + x1))) (fun S8 => bn (some (sI S8 11 15 0)) (fun S9 => some S9)))))
/-! X7.daysAlike -/
noncomputable def fn_X7_daysAlike_84  (x2 : Int32) (S : HS) : Option (Int32 × HS) := bn2 (fn_X1_daysToNextStep (gI S 11 14) S) (fun r2 S1 => some (jmax 1 (jmin x2 r2), S1))
noncomputable def fn_X7_daysAlike_43  (x2 : Int32) (S : HS) : Option (Int32 × HS) := bn2 (fl_size 5 S) (fun r2 S1 => cd (r2 ≤ (gI S 11 11)) (fn_X7_daysAlike_84 x2 S1) (bn2 (fl_get 5 (gI S1 11 11) S1) (fun r4 S3 => bn (r4) (fun c5 => gd (gK S3 c5 = 4) (gd (gK S3 c5 = 4) (bn (some (jmin x2 ((gI S3 c5 2) - (gI S3 11 9)))) (fun v8 => fn_X7_daysAlike_84 v8 S3)))))))
noncomputable def fn_X7_daysAlike (x1 : Int32) (S : HS) : Option (Int32 × HS) := bn2 (fl_size 4 S) (fun r2 S1 => cd (r2 ≤ (gI S 11 10)) (fn_X7_daysAlike_43 x1 S1) (bn2 (fl_get 4 (gI S1 11 10) S1) (fun r4 S3 => bn (r4) (fun c5 => gd (gK S3 c5 = 1) (gd (gK S3 c5 = 1) (bn (some (jmin x1 ((gI S3 c5 1) - (gI S3 11 9)))) (fun v8 => fn_X7_daysAlike_43 v8 S3)))))))
/-! X7.payOfDay -/
noncomputable def fn_X7_payOfDay_45  (y0 : Int64) (S : HS) : Option (Int64 × HS) := some (y0, S)
noncomputable def fn_X7_payOfDay  (S : HS) : Option (Int64 × HS) := gd (vp_in 7 9) (bn (some ((gI S 13 (7 : Int32).toNatClampNeg) / 10)) (fun v2 => gd (vp_in 7 9) (bn (some ((gI S 13 (7 : Int32).toNatClampNeg) - (gI S 13 (7 : Int32).toNatClampNeg) / 10 * 10)) (fun v4 => cd (v4 ≤ 0) (fn_X7_payOfDay_45 0 S) (gd (¬ (v4.toInt64) = 0) (fn_X7_payOfDay_45 (((840 * ((gI S 11 17 : Int32).toInt64)) * (v2.toInt64)) / (v4.toInt64)) S))))))
/-! X7.payOfDays -/
noncomputable def fn_X7_payOfDays_70  (x2 : Int64) (S : HS) : Option (Int64 × HS) := some (x2, S)
noncomputable def fn_X7_payOfDays_13  : Nat → Int64 → Int32 → Int32 → HS → Option (Int64 × HS)
  | 0, _, _, _, _ => none
  | n + 1, x2, x4, x5, S => cd (1200 ≤ x5) (fn_X7_payOfDays_70 x2 S) (cd (x4 ≤ (gI S 11 9)) (fn_X7_payOfDays_70 x2 S) (bn2 (fn_X7_daysAlike (x4 - (gI S 11 9)) S) (fun r2 S1 => bn2 (fn_X7_payOfDay S1) (fun r4 S3 => bn (some (x2 + ((r2.toInt64) * r4))) (fun v5 => bn (fn_X7_passDays r2 S3) (fun S6 => bn (fn_X7_openDay S6) (fun S7 => bn (some (x5 + 1)) (fun v8 => (fn_X7_payOfDays_13 n) v5 x4 v8 S7))))))))
noncomputable def fn_X7_payOfDays (x1 : Int32) (S : HS) : Option (Int64 × HS) := bn (some ((gI S 11 9) + x1)) (fun v1 => fn_X7_payOfDays_13 hFuel 0 v1 0 S)
/-! X7.goTo -/
noncomputable def fn_X7_goTo_41   (S : HS) : Option HS := some S
noncomputable def fn_X7_goTo_2  : Nat → Int32 → Int32 → HS → Option HS
  | 0, _, _, _ => none
  | n + 1, x1, x2, S => cd (1200 ≤ x2) (fn_X7_goTo_41 S) (cd (x1 ≤ (gI S 11 9)) (fn_X7_goTo_41 S) (bn2 (fn_X7_daysAlike (x1 - (gI S 11 9)) S) (fun r2 S1 => bn (fn_X7_passDays r2 S1) (fun S3 => bn (fn_X7_openDay S3) (fun S4 => bn (some (x2 + 1)) (fun v5 => (fn_X7_goTo_2 n) x1 v5 S4))))))
noncomputable def fn_X7_goTo (x1 : Int32) (S : HS) : Option HS := fn_X7_goTo_2 hFuel x1 0 S
/-! X7.begin -/
noncomputable def fn_X7_begin (x1 : Int32) (x2 : Int32) (S : HS) : Option HS := bn (some (sI S 11 7 x1)) (fun S1 => bn (some (sI S1 11 8 x2)) (fun S2 => bn (some (sI S2 11 9 0)) (fun S3 => bn (some (sI S3 11 10 0)) (fun S4 => bn (some (sI S4 11 11 0)) (fun S5 => bn (some (sI S5 11 14 0)) (fun S6 => bn (some (sI S6 11 15 0)) (fun S7 => bn (some (sI S7 11 16 0)) (fun S8 => bn (some (sI S8 11 17 0)) (fun S9 => bn (fn_X6_clear S9) (fun S10 => bn (fn_J7_fill_53178 13 0 S10) (fun S11 => gd (vp_in 7 9) (bn (some (sI S11 13 (7 : Int32).toNatClampNeg 11)) (fun S13 => bn (fn_J7_fill_53178 14 0 S13) (fun S14 => bn (some (sI S14 11 12 1)) (fun S15 => bn (fn_X7_openDay S15) (fun S16 => some S16))))))))))))))))
/-! X7.tell -/
noncomputable def fn_X7_tell_20  (x1 : Int32) (S : HS) : Option (Int32 × HS) := cd (x1 = 9) (some (gI S 12 2, S)) (cd (x1 = 10) (some (gI S 12 3, S)) (cd (x1 = 11) (some (gI S 11 14, S)) (cd (x1 = 12) (some (gI S 12 4, S)) (cd (x1 = 13) (some (gI S 12 5, S)) (cd (x1 = 14) (some (gI S 12 6, S)) (some (gI S 11 17, S)))))))
noncomputable def fn_X7_tell (x1 : Int32) (S : HS) : Option (Int32 × HS) := cd (x1 < 0) (fn_X7_tell_20 x1 S) (cd ((nI 9) ≤ x1) (fn_X7_tell_20 x1 S) (gd (vp_in x1 9) (some (gI S 13 x1.toNatClampNeg, S))))
/-! X4.byteAt -/
noncomputable def fn_X4_byteAt_35  (y0 : Int32) (S : HS) : Option (Int32 × HS) := some (y0, S)
noncomputable def fn_X4_byteAt_34   (S : HS) : Option (Int32 × HS) := fn_X4_byteAt_35 0 S
noncomputable def fn_X4_byteAt (x1 : Int32) (S : HS) : Option (Int32 × HS) := cd (x1 < 0) (fn_X4_byteAt_34 S) (cd ((gI S 2 2) ≤ x1) (fn_X4_byteAt_34 S) (cd ((nI 2000) ≤ x1) (fn_X4_byteAt_34 S) (gd (vp_in x1 2000) (fn_X4_byteAt_35 ((gI S 1 x1.toNatClampNeg) &&& 255) S))))
/-! X4.kindAt -/
noncomputable def fn_X4_kindAt_81  (y0 : Int32) (S : HS) : Option (Int32 × HS) := some (y0, S)
noncomputable def fn_X4_kindAt_80  (x2 : Int32) (S : HS) : Option (Int32 × HS) := fn_X4_kindAt_81 x2 S
noncomputable def fn_X4_kindAt_62  (x2 : Int32) (S : HS) : Option (Int32 × HS) := cd (x2 < 48) (fn_X4_kindAt_80 x2 S) (cd (57 < x2) (fn_X4_kindAt_80 x2 S) (fn_X4_kindAt_81 258 S))
noncomputable def fn_X4_kindAt_58   (S : HS) : Option (Int32 × HS) := some (257, S)
noncomputable def fn_X4_kindAt_46  (x2 : Int32) (S : HS) : Option (Int32 × HS) := cd (x2 < 65) (fn_X4_kindAt_62 x2 S) (cd (90 < x2) (fn_X4_kindAt_62 x2 S) (fn_X4_kindAt_58 S))
noncomputable def fn_X4_kindAt_30   (S : HS) : Option (Int32 × HS) := some (256, S)
noncomputable def fn_X4_kindAt (x1 : Int32) (S : HS) : Option (Int32 × HS) := cd (x1 < (gI S 2 2)) (bn2 (fn_X4_byteAt x1 S) (fun r2 S1 => cd (r2 = 10) (fn_X4_kindAt_30 S1) (cd (r2 = 32) (fn_X4_kindAt_30 S1) (cd (r2 < 97) (fn_X4_kindAt_46 r2 S1) (cd (r2 ≤ 122) (fn_X4_kindAt_58 S1) (fn_X4_kindAt_46 r2 S1)))))) (some (259, S))
/-! X4.advance -/
noncomputable def fn_X4_advance_101  (x1 : Int32) (S : HS) : Option HS := bn (some (sI S 2 4 x1)) (fun S1 => some S1)
noncomputable def fn_X4_advance_64  : Nat → Int32 → HS → Option HS
  | 0, _, _ => none
  | n + 1, x1, S => cd ((gI S 2 2) ≤ x1) (fn_X4_advance_101 x1 S) (bn2 (fn_X4_kindAt x1 S) (fun r2 S1 => cd (r2 = (gI S1 2 5)) (bn (some (x1 + 1)) (fun v3 => (fn_X4_advance_64 n) v3 S1)) (fn_X4_advance_101 x1 S1)))
noncomputable def fn_X4_advance_30  (x1 : Int32) (S : HS) : Option HS := bn (some (sI S 2 3 x1)) (fun S1 => bn2 (fn_X4_kindAt x1 S1) (fun r3 S2 => bn (some (sI S2 2 5 r3)) (fun S4 => cd ((gI S4 2 5) = 257) (fn_X4_advance_64 hFuel x1 S4) (cd ((gI S4 2 5) = 258) (fn_X4_advance_64 hFuel x1 S4) (cd ((gI S4 2 2) ≤ x1) (fn_X4_advance_101 x1 S4) (bn (some (x1 + 1)) (fun v5 => fn_X4_advance_101 v5 S4)))))))
noncomputable def fn_X4_advance_5  : Nat → Int32 → HS → Option HS
  | 0, _, _ => none
  | n + 1, x1, S => cd ((gI S 2 2) ≤ x1) (fn_X4_advance_30 x1 S) (bn2 (fn_X4_kindAt x1 S) (fun r2 S1 => cd (r2 = 256) (bn (some (x1 + 1)) (fun v3 => (fn_X4_advance_5 n) v3 S1)) (fn_X4_advance_30 x1 S1)))
noncomputable def fn_X4_advance  (S : HS) : Option HS := bn (some (gI S 2 4)) (fun v1 => fn_X4_advance_5 hFuel v1 S)
/-! X4.numberOfToken -/
noncomputable def fn_X4_numberOfToken_7  : Nat → Int32 → Int32 → HS → Option (Int32 × HS)
  | 0, _, _, _ => none
  | n + 1, x1, x2, S => cd ((gI S 2 4) ≤ x2) (some (x1, S)) (bn2 (fn_X4_byteAt x2 S) (fun r2 S1 => bn (some (jmin 10000 (((x1 * 10) + r2) - 48))) (fun v3 => bn (some (x2 + 1)) (fun v4 => (fn_X4_numberOfToken_7 n) v3 v4 S1))))
noncomputable def fn_X4_numberOfToken  (S : HS) : Option (Int32 × HS) := bn (some (gI S 2 3)) (fun v1 => fn_X4_numberOfToken_7 hFuel 0 v1 S)
/-! X4.refuse -/
noncomputable def fn_X4_refuse_17   (S : HS) : Option HS := some S
noncomputable def fn_X4_refuse (x1 : Int32) (x2 : Int32) (S : HS) : Option HS := cd ((gI S 2 6) = 0) (bn (some (sI S 2 6 x1)) (fun S1 => bn (some (sI S1 2 7 x2)) (fun S2 => fn_X4_refuse_17 S2))) (fn_X4_refuse_17 S)
/-! X4.tokenIs -/
noncomputable def fn_X4_tokenIs_30  : Nat → Nat → Int32 → HS → Option (Int32 × HS)
  | 0, _, _, _ => none
  | n + 1, x1, x2, S => gd (x1 < 9) (cd ((nI (hSlen.getD x1 0)) ≤ x2) (some (1, S)) (bn2 (fn_X4_byteAt ((gI S 2 3) + x2) S) (fun r3 S2 => gd (x1 < 9) (gd (vp_in x2 (hSlen.getD x1 0)) (cd (r3 = (hCh x1 x2.toNatClampNeg)) (bn (some (x2 + 1)) (fun v6 => (fn_X4_tokenIs_30 n) x1 v6 S2)) (some (0, S2)))))))
noncomputable def fn_X4_tokenIs_26   (S : HS) : Option (Int32 × HS) := some (0, S)
noncomputable def fn_X4_tokenIs (x1 : Nat) (S : HS) : Option (Int32 × HS) := cd ((gI S 2 5) = 257) (gd (x1 < 9) (cd (((gI S 2 4) - (gI S 2 3)) = (nI (hSlen.getD x1 0))) (fn_X4_tokenIs_30 hFuel x1 0 S) (fn_X4_tokenIs_26 S))) (fn_X4_tokenIs_26 S)
/-! X4.spelling -/
noncomputable def fn_X4_spelling (x0 : Int32) (S : HS) : Option (Nat × HS) := cd (x0 = 0) (some (0, S)) (cd (x0 = 1) (some (1, S)) (cd (x0 = 2) (some (2, S)) (cd (x0 = 3) (some (3, S)) (cd (x0 = 4) (some (4, S)) (cd (x0 = 5) (some (5, S)) (some (6, S)))))))
/-! X4.wordOfToken -/
noncomputable def fn_X4_wordOfToken_2  : Nat → Int32 → HS → Option (Int32 × HS)
  | 0, _, _ => none
  | n + 1, x1, S => cd (6 < x1) (some ((-1), S)) (bn2 (fn_X4_spelling x1 S) (fun r2 S1 => bn2 (fn_X4_tokenIs r2 S1) (fun r4 S3 => cd (r4 = 0) (bn (some (x1 + 1)) (fun v5 => (fn_X4_wordOfToken_2 n) v5 S3)) (some (x1, S3)))))
noncomputable def fn_X4_wordOfToken  (S : HS) : Option (Int32 × HS) := fn_X4_wordOfToken_2 hFuel 0 S
/-! X4.takeLetter -/
noncomputable def fn_X4_takeLetter_42   (S : HS) : Option (Int32 × HS) := bn (fn_X4_refuse 1 (gI S 2 3) S) (fun S1 => some (0, S1))
noncomputable def fn_X4_takeLetter (x1 : Int32) (x2 : Int32) (S : HS) : Option (Int32 × HS) := bn2 (fn_X4_byteAt (gI S 2 3) S) (fun r2 S1 => cd ((gI S1 2 5) = 257) (cd (((gI S1 2 4) - (gI S1 2 3)) = 1) (cd (r2 < x1) (fn_X4_takeLetter_42 S1) (cd (r2 ≤ x2) (bn (fn_X4_advance S1) (fun S3 => some (r2 - x1, S3))) (fn_X4_takeLetter_42 S1))) (fn_X4_takeLetter_42 S1)) (fn_X4_takeLetter_42 S1))
/-! X4.takeRelation -/
noncomputable def fn_X4_takeRelation_35  (x1 : Int32) (S : HS) : Option (Int32 × HS) := bn (fn_X4_advance S) (fun S1 => some (x1, S1))
noncomputable def fn_X4_takeRelation  (S : HS) : Option (Int32 × HS) := bn (some (gI S 2 5)) (fun v1 => cd (v1 = 60) (fn_X4_takeRelation_35 v1 S) (cd (v1 = 62) (fn_X4_takeRelation_35 v1 S) (cd (v1 = 61) (fn_X4_takeRelation_35 v1 S) (bn (fn_X4_refuse 1 (gI S 2 3) S) (fun S2 => some (61, S2))))))
/-! X4.takeNumber -/
noncomputable def fn_X4_takeNumber_42  (x1 : Int32) (S : HS) : Option (Int32 × HS) := bn (fn_X4_advance S) (fun S1 => some (x1, S1))
noncomputable def fn_X4_takeNumber  (S : HS) : Option (Int32 × HS) := cd ((gI S 2 5) = 258) (bn2 (fn_X4_numberOfToken S) (fun r2 S1 => cd (r2 ≤ 9999) (fn_X4_takeNumber_42 r2 S1) (bn (fn_X4_refuse 2 (gI S1 2 3) S1) (fun S3 => fn_X4_takeNumber_42 r2 S3)))) (bn (fn_X4_refuse 1 (gI S 2 3) S) (fun S4 => some (0, S4)))
/-! X4.takeSign -/
noncomputable def fn_X4_takeSign (x1 : Int32) (S : HS) : Option HS := cd ((gI S 2 5) = x1) (bn (fn_X4_advance S) (fun S1 => some S1)) (bn (fn_X4_refuse 1 (gI S 2 3) S) (fun S2 => some S2))
/-! X4.takeFrom -/
noncomputable def fn_X4_takeFrom  (S : HS) : Option HS := bn2 (fn_X4_tokenIs 7 S) (fun r2 S1 => cd (r2 = 0) (bn (fn_X4_refuse 1 (gI S1 2 3) S1) (fun S4 => some S4)) (bn (fn_X4_advance S1) (fun S3 => some S3)))
/-! X4.checkKey -/
noncomputable def fn_X4_checkKey_29  (x1 : Int32) (S : HS) : Option HS := gd (vp_in x1 156) (bn (some (sI S 3 x1.toNatClampNeg 1)) (fun S2 => some S2))
noncomputable def fn_X4_checkKey_13   (S : HS) : Option HS := some S
noncomputable def fn_X4_checkKey (x1 : Int32) (x2 : Int32) (S : HS) : Option HS := cd (x1 < 0) (fn_X4_checkKey_13 S) (cd (x1 < (nI 156)) (gd (vp_in x1 156) (cd ((gI S 3 x1.toNatClampNeg) = 0) (fn_X4_checkKey_29 x1 S) (bn (fn_X4_refuse 3 x2 S) (fun S2 => fn_X4_checkKey_29 x1 S2)))) (fn_X4_checkKey_13 S))
/-! X4.readCondition -/
noncomputable def fn_X4_readCondition (x1 : Nat) (S : HS) : Option HS := bn2 (fn_X4_takeLetter 65 70 S) (fun r2 S1 => gd (gK S1 x1 = 3) (bn (some (sI S1 x1 5 r2)) (fun S4 => bn2 (fn_X4_takeRelation S4) (fun r6 S5 => gd (gK S5 x1 = 3) (bn (some (sI S5 x1 6 r6)) (fun S8 => bn2 (fn_X4_takeNumber S8) (fun r10 S9 => gd (gK S9 x1 = 3) (bn (some (sI S9 x1 7 r10)) (fun S12 => some S12)))))))))
/-! X4.readScale -/
noncomputable def fn_X4_readScale_87   (S : HS) : Option HS := some S
noncomputable def fn_X4_readScale_81 (k4 : Nat → Int32 → Int32 → HS → Option HS) (x1 : Nat) (x2 : Int32) (x3 : Int32) (S : HS) : Option HS := bn (some (x3 + 1)) (fun v1 => k4 x1 x2 v1 S)
noncomputable def fn_X4_readScale_72 (k4 : Nat → Int32 → Int32 → HS → Option HS) (x1 : Nat) (x3 : Int32) (y0 : Int32) (S : HS) : Option HS := cd (y0 = 0) (fn_X4_readScale_81 k4 x1 y0 x3 S) (bn (fn_X4_advance S) (fun S1 => fn_X4_readScale_81 k4 x1 y0 x3 S1))
noncomputable def fn_X4_readScale_50 (k4 : Nat → Int32 → Int32 → HS → Option HS) (x1 : Nat) (x3 : Int32) (S : HS) : Option HS := bn2 (fn_X4_takeNumber S) (fun r2 S1 => gd (gK S1 x1 = 3) (bn (fn_X2_addToScale x1 r2 S1) (fun S4 => cd ((gI S4 2 5) = 44) (fn_X4_readScale_72 k4 x1 x3 1 S4) (fn_X4_readScale_72 k4 x1 x3 0 S4))))
noncomputable def fn_X4_readScale_4  : Nat → Nat → Int32 → Int32 → HS → Option HS
  | 0, _, _, _, _ => none
  | n + 1, x1, x2, x3, S => cd (2000 ≤ x3) (fn_X4_readScale_87 S) (cd (x2 = 0) (fn_X4_readScale_87 S) (cd ((gI S 2 6) = 0) (cd ((gI S 2 5) = 258) (gd (gK S x1 = 3) (cd ((gI S x1 3) < 8) (fn_X4_readScale_50 (fn_X4_readScale_4 n) x1 x3 S) (bn (fn_X4_refuse 2 (gI S 2 3) S) (fun S2 => fn_X4_readScale_50 (fn_X4_readScale_4 n) x1 x3 S2)))) (fn_X4_readScale_50 (fn_X4_readScale_4 n) x1 x3 S)) (fn_X4_readScale_87 S)))
noncomputable def fn_X4_readScale (x1 : Nat) (S : HS) : Option HS := fn_X4_readScale_4 hFuel x1 1 0 S
/-! X4.readStepDays -/
noncomputable def fn_X4_readStepDays_26   (S : HS) : Option HS := some S
noncomputable def fn_X4_readStepDays (x1 : Nat) (S : HS) : Option HS := bn (some (gI S 2 3)) (fun v1 => bn2 (fn_X4_takeNumber S) (fun r3 S2 => gd (gK S2 x1 = 3) (bn (some (sI S2 x1 8 r3)) (fun S5 => gd (gK S5 x1 = 3) (cd ((gI S5 x1 8) = 0) (bn (fn_X4_refuse 2 v1 S5) (fun S7 => fn_X4_readStepDays_26 S7)) (fn_X4_readStepDays_26 S5))))))
/-! X4.readPlusNumber -/
noncomputable def fn_X4_readPlusNumber_45   (S : HS) : Option HS := some S
noncomputable def fn_X4_readPlusNumber_36  (x1 : Nat) (S : HS) : Option HS := gd (gK S x1 = 3) (bn (some (sI S x1 9 1)) (fun S2 => bn (fn_X4_advance S2) (fun S3 => fn_X4_readPlusNumber_45 S3)))
noncomputable def fn_X4_readPlusNumber (x1 : Nat) (S : HS) : Option HS := bn2 (fn_X4_takeNumber S) (fun r2 S1 => gd (gK S1 x1 = 3) (bn (some (sI S1 x1 8 r2)) (fun S4 => cd ((gI S4 2 5) = 37) (gd (gK S4 x1 = 3) (cd ((gI S4 x1 8) ≤ 999) (fn_X4_readPlusNumber_36 x1 S4) (bn (fn_X4_refuse 2 (gI S4 2 3) S4) (fun S6 => fn_X4_readPlusNumber_36 x1 S6)))) (fn_X4_readPlusNumber_45 S4))))
/-! X4.begin -/
noncomputable def fn_X4_begin_22  : Nat → Int32 → HS → Option HS
  | 0, _, _ => none
  | n + 1, x2, S => cd ((nI 156) ≤ x2) (bn (fn_X4_advance S) (fun S1 => some S1)) (gd (vp_in x2 156) (bn (some (sI S 3 x2.toNatClampNeg 0)) (fun S3 => bn (some (x2 + 1)) (fun v4 => (fn_X4_begin_22 n) v4 S3))))
noncomputable def fn_X4_begin (x1 : Int32) (S : HS) : Option HS := bn (some (sI S 2 2 x1)) (fun S1 => bn (some (sI S1 2 4 0)) (fun S2 => bn (some (sI S2 2 6 0)) (fun S3 => bn (some (sI S3 2 7 (-1))) (fun S4 => fn_X4_begin_22 hFuel 0 S4))))
/-! X4.takeFirstWord -/
noncomputable def fn_X4_takeFirstWord (x1 : Int32) (S : HS) : Option (Int32 × HS) := bn2 (fn_X4_wordOfToken S) (fun r2 S1 => cd (r2 = (-1)) (bn (fn_X4_refuse 1 (gI S1 2 3) S1) (fun S5 => some ((-1), S5))) (cd (x1 < 40) (bn (fn_X4_advance S1) (fun S3 => some (r2, S3))) (bn (fn_X4_refuse 2 (gI S1 2 3) S1) (fun S4 => some ((-1), S4)))))
/-! X8.feedNumber -/
noncomputable def fn_X8_feedNumber_40 (k3 : Int32 → Int32 → HS → Option HS) (x1 : Int32) (x2 : Int32) (S : HS) : Option HS := bn (some (x2 + (-8))) (fun v1 => k3 x1 v1 S)
noncomputable def fn_X8_feedNumber_3  : Nat → Int32 → Int32 → HS → Option HS
  | 0, _, _, _ => none
  | n + 1, x1, x2, S => cd (x2 < 0) (some S) (cd (2000 ≤ (gI S 0 14)) (fn_X8_feedNumber_40 (fn_X8_feedNumber_3 n) x1 x2 S) (gd (vp_in (gI S 0 14) 2000) (bn (some (sI S 1 (gI S 0 14 : Int32).toNatClampNeg (vp_nar .byte ((x1 >>> (x2 &&& 31) : Int32).toInt8.toInt32)))) (fun S2 => bn (some (sI S2 0 14 ((gI S2 0 14) + 1))) (fun S3 => fn_X8_feedNumber_40 (fn_X8_feedNumber_3 n) x1 x2 S3)))))
noncomputable def fn_X8_feedNumber (x1 : Int32) (S : HS) : Option HS := fn_X8_feedNumber_3 hFuel x1 24 S
/-! X8.feed -/
noncomputable def fn_X8_feed (x1 : Int32) (x2 : Int32) (x3 : Int32) (x4 : Int32) (x5 : Int32) (S : HS) : Option (Int32 × HS) := cd (((gI S 0 14) + 20) ≤ 2000) (bn (fn_X8_feedNumber x1 S) (fun S1 => bn (fn_X8_feedNumber x2 S1) (fun S2 => bn (fn_X8_feedNumber x3 S2) (fun S3 => bn (fn_X8_feedNumber x4 S3) (fun S4 => bn (fn_X8_feedNumber x5 S4) (fun S5 => some (gI S5 0 14, S5))))))) (some ((-1), S))
/-! X8.fault -/
noncomputable def fn_X8_fault_28  (y0 : Int32) (S : HS) : Option (Int32 × HS) := some (y0, S)
noncomputable def fn_X8_fault (x1 : Int32) (S : HS) : Option (Int32 × HS) := cd (x1 = 0) (some (gI S 2 6, S)) (cd (x1 = 1) (fn_X8_fault_28 (gI S 2 7) S) (fn_X8_fault_28 (-1) S))
/-! X8.pass -/
noncomputable def fn_X8_pass_23   (S : HS) : Option (Int32 × HS) := some ((-1), S)
noncomputable def fn_X8_pass (x1 : Int32) (S : HS) : Option (Int32 × HS) := cd (x1 < 0) (fn_X8_pass_23 S) (cd (1200 < x1) (fn_X8_pass_23 S) (cd (((gI S 0 13) + x1) < 1200) (bn (some (sI S 0 13 ((gI S 0 13) + x1))) (fun S1 => some (gI S1 0 13, S1))) (fn_X8_pass_23 S)))
/-! X8.post -/
noncomputable def fn_X8_post_19   (S : HS) : Option (Int32 × HS) := some ((-1), S)
noncomputable def fn_X8_post (x1 : Int32) (S : HS) : Option (Int32 × HS) := cd (x1 < 0) (fn_X8_post_19 S) (cd (8 ≤ x1) (fn_X8_post_19 S) (cd ((gI S 0 16) < 8) (gd (vp_in (gI S 0 16) 8) (bn (some (sI S 6 (gI S 0 16 : Int32).toNatClampNeg x1)) (fun S2 => bn (some (sI S2 0 16 ((gI S2 0 16) + 1))) (fun S3 => some ((gI S3 0 16) - 1, S3))))) (fn_X8_post_19 S)))
/-! X8.isPost -/
noncomputable def fn_X8_isPost_17  (y0 : Int32) (S : HS) : Option (Int32 × HS) := gd (y0 = 0 ∨ y0 = 1) (some (y0, S))
noncomputable def fn_X8_isPost_16   (S : HS) : Option (Int32 × HS) := fn_X8_isPost_17 0 S
noncomputable def fn_X8_isPost (x1 : Int32) (S : HS) : Option (Int32 × HS) := cd (x1 < 0) (fn_X8_isPost_16 S) (cd ((gI S 0 16) ≤ x1) (fn_X8_isPost_16 S) (fn_X8_isPost_17 1 S))
/-! X8.isDay -/
noncomputable def fn_X8_isDay_16  (y0 : Int32) (S : HS) : Option (Int32 × HS) := gd (y0 = 0 ∨ y0 = 1) (some (y0, S))
noncomputable def fn_X8_isDay_15   (S : HS) : Option (Int32 × HS) := fn_X8_isDay_16 0 S
noncomputable def fn_X8_isDay (x0 : Int32) (S : HS) : Option (Int32 × HS) := cd (x0 < 0) (fn_X8_isDay_15 S) (cd (1200 ≤ x0) (fn_X8_isDay_15 S) (fn_X8_isDay_16 1 S))
/-! X8.isMonth -/
noncomputable def fn_X8_isMonth_15  (y0 : Int32) (S : HS) : Option (Int32 × HS) := gd (y0 = 0 ∨ y0 = 1) (some (y0, S))
noncomputable def fn_X8_isMonth_14   (S : HS) : Option (Int32 × HS) := fn_X8_isMonth_15 0 S
noncomputable def fn_X8_isMonth (x0 : Int32) (S : HS) : Option (Int32 × HS) := cd (x0 < 0) (fn_X8_isMonth_14 S) (cd (40 ≤ x0) (fn_X8_isMonth_14 S) (fn_X8_isMonth_15 1 S))
/-! X8.isKnown -/
noncomputable def fn_X8_isKnown_17  (y0 : Int32) (S : HS) : Option (Int32 × HS) := gd (y0 = 0 ∨ y0 = 1) (some (y0, S))
noncomputable def fn_X8_isKnown_16   (S : HS) : Option (Int32 × HS) := fn_X8_isKnown_17 0 S
noncomputable def fn_X8_isKnown (x1 : Int32) (S : HS) : Option (Int32 × HS) := cd (x1 < 0) (fn_X8_isKnown_16 S) (cd ((gI S 0 13) < x1) (fn_X8_isKnown_16 S) (fn_X8_isKnown_17 1 S))
/-! X8.isPart -/
noncomputable def fn_X8_isPart_35  (y0 : Int32) (S : HS) : Option (Int32 × HS) := gd (y0 = 0 ∨ y0 = 1) (some (y0, S))
noncomputable def fn_X8_isPart_34   (S : HS) : Option (Int32 × HS) := fn_X8_isPart_35 0 S
noncomputable def fn_X8_isPart (x0 : Int32) (S : HS) : Option (Int32 × HS) := bn (some (x0 / 10)) (fun v1 => bn (some (x0 - x0 / 10 * 10)) (fun v2 => cd (x0 < 0) (fn_X8_isPart_34 S) (cd (v2 < 1) (fn_X8_isPart_34 S) (cd (8 < v2) (fn_X8_isPart_34 S) (cd (v2 < v1) (fn_X8_isPart_34 S) (fn_X8_isPart_35 1 S))))))
/-! X8.canBecome -/
noncomputable def fn_X8_canBecome_65  (y0 : Int32) (S : HS) : Option (Int32 × HS) := gd (y0 = 0 ∨ y0 = 1) (some (y0, S))
noncomputable def fn_X8_canBecome_60   (S : HS) : Option (Int32 × HS) := fn_X8_canBecome_65 1 S
noncomputable def fn_X8_canBecome_37  (y0 : Int32) (S : HS) : Option (Int32 × HS) := gd (y0 = 0 ∨ y0 = 1) (some (y0, S))
noncomputable def fn_X8_canBecome_36   (S : HS) : Option (Int32 × HS) := fn_X8_canBecome_37 0 S
noncomputable def fn_X8_canBecome_10   (S : HS) : Option (Int32 × HS) := some (0, S)
noncomputable def fn_X8_canBecome (x0 : Int32) (x1 : Int32) (S : HS) : Option (Int32 × HS) := cd (x0 < 0) (fn_X8_canBecome_10 S) (cd (x0 < 9) (cd (6 ≤ x0) (cd (x0 = 7) (bn2 (fn_X8_isPart x1 S) (fun r2 S1 => fn_X8_canBecome_65 r2 S1)) (cd (x1 = 0) (fn_X8_canBecome_60 S) (cd (x1 = 1) (fn_X8_canBecome_60 S) (fn_X8_canBecome_65 0 S)))) (cd (x1 < (-9999)) (fn_X8_canBecome_36 S) (cd (9999 < x1) (fn_X8_canBecome_36 S) (fn_X8_canBecome_37 1 S)))) (fn_X8_canBecome_10 S))
/-! X8.placeOfAgreement -/
noncomputable def fn_X8_placeOfAgreement_2  : Nat → Int32 → Int32 → HS → Option (Int32 × HS)
  | 0, _, _, _ => none
  | n + 1, x1, x2, S => bn2 (fl_size 4 S) (fun r2 S1 => cd (r2 ≤ x2) (bn2 (fl_size 4 S1) (fun r4 S3 => some (r4, S3))) (bn2 (fl_get 4 x2 S1) (fun r6 S5 => bn (r6) (fun c7 => gd (gK S5 c7 = 1) (gd (gK S5 c7 = 1) (cd ((gI S5 c7 1) ≤ x1) (bn (some (x2 + 1)) (fun v10 => (fn_X8_placeOfAgreement_2 n) x1 v10 S5)) (some (x2, S5))))))))
noncomputable def fn_X8_placeOfAgreement (x1 : Int32) (S : HS) : Option (Int32 × HS) := fn_X8_placeOfAgreement_2 hFuel x1 0 S
/-! X8.placeOfNote -/
noncomputable def fn_X8_placeOfNote_2  : Nat → Int32 → Int32 → HS → Option (Int32 × HS)
  | 0, _, _, _ => none
  | n + 1, x1, x2, S => bn2 (fl_size 5 S) (fun r2 S1 => cd (r2 ≤ x2) (bn2 (fl_size 5 S1) (fun r4 S3 => some (r4, S3))) (bn2 (fl_get 5 x2 S1) (fun r6 S5 => bn (r6) (fun c7 => gd (gK S5 c7 = 4) (gd (gK S5 c7 = 4) (cd ((gI S5 c7 2) ≤ x1) (bn (some (x2 + 1)) (fun v10 => (fn_X8_placeOfNote_2 n) x1 v10 S5)) (some (x2, S5))))))))
noncomputable def fn_X8_placeOfNote (x1 : Int32) (S : HS) : Option (Int32 × HS) := fn_X8_placeOfNote_2 hFuel x1 0 S
/-! X8.look -/
noncomputable def fn_X8_look_35   (S : HS) : Option (Int32 × HS) := some ((-2147483648), S)
noncomputable def fn_X8_look (x1 : Int32) (x2 : Int32) (x3 : Int32) (x4 : Int32) (S : HS) : Option (Int32 × HS) := bn2 (fn_X8_isPost x1 S) (fun r2 S1 => cd (r2 = 0) (fn_X8_look_35 S1) (bn2 (fn_X8_isDay x2 S1) (fun r4 S3 => cd (r4 = 0) (fn_X8_look_35 S3) (bn2 (fn_X8_isKnown x3 S3) (fun r6 S5 => cd (r6 = 0) (fn_X8_look_35 S5) (cd (x4 < 0) (fn_X8_look_35 S5) (cd (x4 < 16) (bn (fn_X7_begin x1 x3 S5) (fun S7 => bn (fn_X7_goTo x2 S7) (fun S8 => bn2 (fn_X7_tell x4 S8) (fun r10 S9 => some (r10, S9))))) (fn_X8_look_35 S5))))))))
/-! X8.pay -/
noncomputable def fn_X8_pay_23   (S : HS) : Option (Int64 × HS) := some ((-1), S)
noncomputable def fn_X8_pay (x1 : Int32) (x2 : Int32) (x3 : Int32) (S : HS) : Option (Int64 × HS) := bn2 (fn_X8_isPost x1 S) (fun r2 S1 => cd (r2 = 0) (fn_X8_pay_23 S1) (bn2 (fn_X8_isDay x2 S1) (fun r4 S3 => cd (r4 = 0) (fn_X8_pay_23 S3) (bn2 (fn_X8_isKnown x3 S3) (fun r6 S5 => cd (r6 = 0) (fn_X8_pay_23 S5) (bn (fn_X7_begin x1 x3 S5) (fun S7 => bn (fn_X7_goTo x2 S7) (fun S8 => bn2 (fn_X7_payOfDay S8) (fun r10 S9 => some (r10, S9))))))))))
/-! X8.dueOfMonths -/
noncomputable def fn_X8_dueOfMonths (x1 : Int32) (x2 : Int32) (x3 : Int32) (x4 : Int32) (S : HS) : Option (Int64 × HS) := bn (fn_X7_begin x1 x4 S) (fun S1 => bn (fn_X7_goTo (x2 * 30) S1) (fun S2 => bn2 (fn_X7_payOfDays (((x3 - x2) + 1) * 30) S2) (fun r4 S3 => some (r4, S3))))
/-! X8.due -/
noncomputable def fn_X8_due_23   (S : HS) : Option (Int64 × HS) := some ((-1), S)
noncomputable def fn_X8_due (x1 : Int32) (x2 : Int32) (x3 : Int32) (S : HS) : Option (Int64 × HS) := bn2 (fn_X8_isPost x1 S) (fun r2 S1 => cd (r2 = 0) (fn_X8_due_23 S1) (bn2 (fn_X8_isMonth x2 S1) (fun r4 S3 => cd (r4 = 0) (fn_X8_due_23 S3) (bn2 (fn_X8_isKnown x3 S3) (fun r6 S5 => cd (r6 = 0) (fn_X8_due_23 S5) (bn2 (fn_X8_dueOfMonths x1 x2 x2 x3 S5) (fun r8 S7 => some (r8, S7))))))))
/-! X8.settle -/
noncomputable def fn_X8_settle_64   (S : HS) : Option HS := some S
noncomputable def fn_X8_settle_23   (S : HS) : Option HS := some S
noncomputable def fn_X8_settle (x1 : Int32) (x2 : Int32) (x3 : Int64) (S : HS) : Option HS := bn (some ((x1 * 40) + x2)) (fun v1 => cd (v1 < 0) (fn_X8_settle_23 S) (cd (v1 < (nI 320)) (gd (vp_in v1 320) (bn (some (x3 - (gJ S 15 v1.toNatClampNeg))) (fun v3 => cd ((lg_cmp v3 0) = 0) (fn_X8_settle_64 S) (gd (vp_in v1 320) (bn (some (sJ S 15 v1.toNatClampNeg x3)) (fun S5 => bn (fn_X5_add 16 (x1.toInt64) (x2.toInt64) v3 0 S5) (fun S6 => fn_X8_settle_64 S6))))))) (fn_X8_settle_23 S)))
/-! X8.run -/
noncomputable def fn_X8_run_39 (k17 : Int32 → Int32 → HS → Option (Int32 × HS)) : Nat → Int32 → Int32 → Int32 → HS → Option (Int32 × HS)
  | 0, _, _, _, _ => none
  | n + 1, x1, x2, x3, S => cd (x1 ≤ x3) (bn (some (x2 + 1)) (fun v1 => k17 x1 v1 S)) (bn2 (fn_X7_payOfDays 30 S) (fun r3 S2 => bn (fn_X8_settle x2 x3 r3 S2) (fun S4 => bn (some (x3 + 1)) (fun v5 => (fn_X8_run_39 k17 n) x1 x2 v5 S4))))
noncomputable def fn_X8_run_17  : Nat → Int32 → Int32 → HS → Option (Int32 × HS)
  | 0, _, _, _ => none
  | n + 1, x1, x2, S => cd ((gI S 0 16) ≤ x2) (bn (some (sI S 0 17 ((gI S 0 17) + 1))) (fun S1 => some (gI S1 16 2, S1))) (bn (fn_X7_begin x2 (gI S 0 13) S) (fun S2 => fn_X8_run_39 (fn_X8_run_17 n) hFuel x1 x2 0 S2))
noncomputable def fn_X8_run  (S : HS) : Option (Int32 × HS) := bn (fn_X5_clear 16 S) (fun S1 => bn (some ((gI S1 0 13) / 30)) (fun v2 => fn_X8_run_17 hFuel v2 0 S1))
/-! X8.payment -/
noncomputable def fn_X8_payment (x1 : Int32) (x2 : Int32) (S : HS) : Option (Int64 × HS) := bn2 (fn_X5_cell 16 x1 x2 S) (fun r2 S1 => some (r2, S1))
/-! X8.paid -/
noncomputable def fn_X8_paid_15   (S : HS) : Option (Int64 × HS) := some ((-1), S)
noncomputable def fn_X8_paid (x1 : Int32) (x2 : Int32) (S : HS) : Option (Int64 × HS) := bn2 (fn_X8_isPost x1 S) (fun r2 S1 => cd (r2 = 0) (fn_X8_paid_15 S1) (bn2 (fn_X8_isMonth x2 S1) (fun r4 S3 => cd (r4 = 0) (fn_X8_paid_15 S3) (gd (vp_in ((x1 * 40) + x2) 320) (some (gJ S3 15 ((x1 * 40) + x2 : Int32).toNatClampNeg, S3))))))
/-! X8.cost -/
noncomputable def fn_X8_cost_37  : Nat → Int32 → Int32 → Int32 → Int64 → Int32 → HS → Option (Int64 × HS)
  | 0, _, _, _, _, _, _ => none
  | n + 1, x1, x2, x3, x4, x6, S => cd ((gI S 0 16) ≤ x6) (some (x4, S)) (bn2 (fn_X8_dueOfMonths x6 x1 x2 x3 S) (fun r2 S1 => bn (some (x4 + r2)) (fun v3 => bn (some (x6 + 1)) (fun v4 => (fn_X8_cost_37 n) x1 x2 x3 v3 v4 S1))))
noncomputable def fn_X8_cost_27   (S : HS) : Option (Int64 × HS) := some ((-1), S)
noncomputable def fn_X8_cost (x1 : Int32) (x2 : Int32) (x3 : Int32) (S : HS) : Option (Int64 × HS) := bn2 (fn_X8_isMonth x1 S) (fun r2 S1 => cd (r2 = 0) (fn_X8_cost_27 S1) (bn2 (fn_X8_isMonth x2 S1) (fun r4 S3 => cd (r4 = 0) (fn_X8_cost_27 S3) (cd (x2 < x1) (fn_X8_cost_27 S3) (bn2 (fn_X8_isKnown x3 S3) (fun r6 S5 => cd (r6 = 0) (fn_X8_cost_27 S5) (fn_X8_cost_37 hFuel x1 x2 x3 0 0 S5)))))))
/-! X8.areLike -/
noncomputable def fn_X8_areLike_72  (y0 : Int32) (S : HS) : Option (Int32 × HS) := gd (y0 = 0 ∨ y0 = 1) (some (y0, S))
noncomputable def fn_X8_areLike_71   (S : HS) : Option (Int32 × HS) := fn_X8_areLike_72 0 S
noncomputable def fn_X8_areLike_33  (x1 : Int32) (x2 : Int32) (x3 : Int32) (x4 : Int32) (x5 : Int32) (y0 : Int32) (S : HS) : Option (Int32 × HS) := cd (y0 = 0) (fn_X8_areLike_71 S) (cd (x3 < (jabs (x4 - x5))) (fn_X8_areLike_71 S) (gd (vp_in x1 8) (gd (vp_in x2 8) (cd ((gI S 23 x1.toNatClampNeg) = (gI S 23 x2.toNatClampNeg)) (fn_X8_areLike_71 S) (fn_X8_areLike_72 1 S)))))
noncomputable def fn_X8_areLike_32  (x1 : Int32) (x2 : Int32) (x3 : Int32) (x4 : Int32) (x5 : Int32) (S : HS) : Option (Int32 × HS) := fn_X8_areLike_33 x1 x2 x3 x4 x5 0 S
noncomputable def fn_X8_areLike (x1 : Int32) (x2 : Int32) (x3 : Int32) (S : HS) : Option (Int32 × HS) := gd (vp_in x1 8) (bn (some (gI S 22 x1.toNatClampNeg)) (fun v2 => gd (vp_in x2 8) (bn (some (gI S 22 x2.toNatClampNeg)) (fun v4 => cd (v2 = (-1)) (fn_X8_areLike_32 x1 x2 x3 v2 v4 S) (cd (v4 = (-1)) (fn_X8_areLike_32 x1 x2 x3 v2 v4 S) (fn_X8_areLike_33 x1 x2 x3 v2 v4 1 S))))))
/-! X8.commonDivisor -/
noncomputable def fn_X8_commonDivisor_34  (x2 : Int32) (S : HS) : Option (Int32 × HS) := some (x2, S)
noncomputable def fn_X8_commonDivisor_7  : Nat → Int32 → Int32 → Int32 → HS → Option (Int32 × HS)
  | 0, _, _, _, _ => none
  | n + 1, x2, x3, x4, S => cd (64 ≤ x4) (fn_X8_commonDivisor_34 x2 S) (cd (x3 = 0) (fn_X8_commonDivisor_34 x2 S) (gd (¬ x3 = 0) (bn (some (x2 - x2 / x3 * x3)) (fun v1 => bn (some (x4 + 1)) (fun v2 => (fn_X8_commonDivisor_7 n) x3 v1 v2 S)))))
noncomputable def fn_X8_commonDivisor (x0 : Int32) (x1 : Int32) (S : HS) : Option (Int32 × HS) := fn_X8_commonDivisor_7 hFuel x0 x1 0 S
/-! X8.addPair -/
noncomputable def fn_X8_addPair_50   (S : HS) : Option HS := some S
noncomputable def fn_X8_addPair (x1 : Int32) (x2 : Int32) (S : HS) : Option HS := gd (vp_in x1 8) (bn (some (gI S 23 x1.toNatClampNeg)) (fun v2 => gd (vp_in x2 8) (bn (some (gI S 23 x2.toNatClampNeg)) (fun v4 => bn2 (fn_X8_commonDivisor v2 v4 S) (fun r6 S5 => cd (r6 ≤ 0) (fn_X8_addPair_50 S5) (gd (¬ r6 = 0) (gd (¬ r6 = 0) (bn (fn_X5_add 18 (x1.toInt64) (x2.toInt64) ((v2 / r6 : Int32).toInt64) ((v4 / r6 : Int32).toInt64) S5) (fun S7 => fn_X8_addPair_50 S7)))))))))
/-! X8.like -/
noncomputable def fn_X8_like_165 (k121 : Int32 → Int32 → HS → Option (Int32 × HS)) (k136 : Int32 → Int32 → Int32 → HS → Option (Int32 × HS)) (x3 : Int32) (x4 : Int32) (x5 : Int32) (S : HS) : Option (Int32 × HS) := bn (some (x5 + 1)) (fun v1 => k136 x3 x4 v1 S)
noncomputable def fn_X8_like_136 (k121 : Int32 → Int32 → HS → Option (Int32 × HS)) : Nat → Int32 → Int32 → Int32 → HS → Option (Int32 × HS)
  | 0, _, _, _, _ => none
  | n + 1, x3, x4, x5, S => cd ((gI S 0 16) ≤ x5) (bn (some (x4 + 1)) (fun v1 => k121 x3 v1 S)) (bn2 (fn_X8_areLike x4 x5 x3 S) (fun r3 S2 => cd (r3 = 0) (fn_X8_like_165 k121 (fn_X8_like_136 k121 n) x3 x4 x5 S2) (bn (fn_X8_addPair x4 x5 S2) (fun S4 => fn_X8_like_165 k121 (fn_X8_like_136 k121 n) x3 x4 x5 S4))))
noncomputable def fn_X8_like_121  : Nat → Int32 → Int32 → HS → Option (Int32 × HS)
  | 0, _, _, _ => none
  | n + 1, x3, x4, S => cd ((gI S 0 16) ≤ x4) (some (gI S 18 2, S)) (bn (some (x4 + 1)) (fun v1 => fn_X8_like_136 (fn_X8_like_121 n) hFuel x3 x4 v1 S))
noncomputable def fn_X8_like_87 (k30 : Int32 → Int32 → Int32 → Int32 → HS → Option (Int32 × HS)) (x1 : Int32) (x2 : Int32) (x3 : Int32) (x4 : Int32) (y0 : Int32) (y1 : Int32) (S : HS) : Option (Int32 × HS) := gd (vp_in y1 8) (bn (some (sI S 22 y1.toNatClampNeg y0)) (fun S2 => gd (vp_in x4 8) (bn (some (sI S2 23 x4.toNatClampNeg (gI S2 12 6))) (fun S4 => bn (some (x4 + 1)) (fun v5 => k30 x1 x2 x3 v5 S4)))))
noncomputable def fn_X8_like_30  : Nat → Int32 → Int32 → Int32 → Int32 → HS → Option (Int32 × HS)
  | 0, _, _, _, _, _ => none
  | n + 1, x1, x2, x3, x4, S => cd ((gI S 0 16) ≤ x4) (bn (fn_X5_clear 18 S) (fun S1 => fn_X8_like_121 hFuel x3 0 S1)) (bn (fn_X7_begin x4 x2 S) (fun S2 => bn (fn_X7_goTo x1 S2) (fun S3 => bn2 (fn_X7_isHeld S3) (fun r5 S4 => cd (r5 = 0) (fn_X8_like_87 (fn_X8_like_30 n) x1 x2 x3 x4 (-1) x4 S4) (fn_X8_like_87 (fn_X8_like_30 n) x1 x2 x3 x4 (gI S4 12 2) x4 S4)))))
noncomputable def fn_X8_like_25   (S : HS) : Option (Int32 × HS) := some ((-1), S)
noncomputable def fn_X8_like (x1 : Int32) (x2 : Int32) (x3 : Int32) (S : HS) : Option (Int32 × HS) := bn2 (fn_X8_isDay x1 S) (fun r2 S1 => cd (r2 = 0) (fn_X8_like_25 S1) (bn2 (fn_X8_isKnown x2 S1) (fun r4 S3 => cd (r4 = 0) (fn_X8_like_25 S3) (cd (x3 < 0) (fn_X8_like_25 S3) (cd (x3 ≤ 99999) (fn_X8_like_30 hFuel x1 x2 x3 0 S3) (fn_X8_like_25 S3))))))
/-! X8.pair -/
noncomputable def fn_X8_pair (x1 : Int32) (x2 : Int32) (S : HS) : Option (Int32 × HS) := bn2 (fn_X5_cell 18 x1 x2 S) (fun r2 S1 => some (r2.toInt32, S1))
/-! X8.meet -/
noncomputable def fn_X8_meet_161 (k92 : Int32 → HS → Option (Int32 × HS)) (x3 : Int32) (S : HS) : Option (Int32 × HS) := bn (some (x3 + 1)) (fun v1 => k92 v1 S)
noncomputable def fn_X8_meet_92  : Nat → Int32 → HS → Option (Int32 × HS)
  | 0, _, _ => none
  | n + 1, x3, S => cd (156 ≤ x3) (some (gI S 20 2, S)) (bn2 (fn_X6_winnerOf x3 S) (fun r2 S1 => bn2 (fn_X6_linesOf x3 S1) (fun r4 S3 => cs (r2) (fn_X8_meet_161 (fn_X8_meet_92 n) x3 S3) (fun c5 => cd (r4 ≤ 1) (fn_X8_meet_161 (fn_X8_meet_92 n) x3 S3) (bn (r2) (fun c6 => gd (gK S3 c6 = 3) (bn (r2) (fun c8 => gd (gK S3 c8 = 3) (bn2 (fn_X6_agreementOf x3 S3) (fun r11 S10 => bn (fn_X5_add 20 ((gI S3 c6 0 : Int32).toInt64) ((gI S3 c8 4 : Int32).toInt64) (r11.toInt64) (r4.toInt64) S10) (fun S12 => fn_X8_meet_161 (fn_X8_meet_92 n) x3 S12)))))))))))
noncomputable def fn_X8_meet_77 (k26 : Int32 → Int32 → Int32 → HS → Option (Int32 × HS)) (x1 : Int32) (x2 : Int32) (x3 : Int32) (S : HS) : Option (Int32 × HS) := bn (some (x3 + 1)) (fun v1 => k26 x1 x2 v1 S)
noncomputable def fn_X8_meet_26  : Nat → Int32 → Int32 → Int32 → HS → Option (Int32 × HS)
  | 0, _, _, _, _ => none
  | n + 1, x1, x2, x3, S => bn2 (fl_size 4 S) (fun r2 S1 => cd (r2 ≤ x3) (bn (fn_X5_clear 20 S1) (fun S3 => fn_X8_meet_92 hFuel 0 S3)) (bn2 (fl_get 4 x3 S1) (fun r5 S4 => bn (r5) (fun c6 => gd (gK S4 c6 = 1) (gd (gK S4 c6 = 1) (cd (x1 < (gI S4 c6 1)) (fn_X8_meet_77 (fn_X8_meet_26 n) x1 x2 x3 S4) (gd (gK S4 c6 = 1) (cd (x2 < (gI S4 c6 2)) (fn_X8_meet_77 (fn_X8_meet_26 n) x1 x2 x3 S4) (bn (fn_X6_take c6 S4) (fun S10 => fn_X8_meet_77 (fn_X8_meet_26 n) x1 x2 x3 S10))))))))))
noncomputable def fn_X8_meet_15   (S : HS) : Option (Int32 × HS) := some ((-1), S)
noncomputable def fn_X8_meet (x1 : Int32) (x2 : Int32) (S : HS) : Option (Int32 × HS) := bn2 (fn_X8_isDay x1 S) (fun r2 S1 => cd (r2 = 0) (fn_X8_meet_15 S1) (bn2 (fn_X8_isKnown x2 S1) (fun r4 S3 => cd (r4 = 0) (fn_X8_meet_15 S3) (bn (fn_X6_clear S3) (fun S5 => fn_X8_meet_26 hFuel x1 x2 0 S5)))))
/-! X8.met -/
noncomputable def fn_X8_met (x1 : Int32) (x2 : Int32) (S : HS) : Option (Int32 × HS) := bn2 (fn_X5_cell 20 x1 x2 S) (fun r2 S1 => some (r2.toInt32, S1))
/-! X8.count -/
noncomputable def fn_X8_count (x1 : Int32) (S : HS) : Option (Int32 × HS) := cd (x1 = 0) (some (gI S 0 13, S)) (cd (x1 = 1) (bn2 (fl_size 4 S) (fun r2 S1 => some (r2, S1))) (cd (x1 = 2) (some (gI S 0 16, S)) (cd (x1 = 3) (bn2 (fl_size 5 S) (fun r4 S3 => some (r4, S3))) (cd (x1 = 4) (some (gI S 0 15, S)) (cd (x1 = 5) (some (gI S 16 2, S)) (cd (x1 = 6) (some (gI S 0 17, S)) (some ((-1), S))))))))
