def KMl : List Nat := [10, 21, 21, 21, 21, 21, 23, 21, 21, 21, 21, 23, 21, 21, 21, 21, 21, 21, 21, 21, 21, 21, 21, 21, 21, 21, 21, 21, 21, 21, 21, 21, 21, 23, 22, 22, 21, 21, 22, 21, 21]
def NMl : List Nat := [0, 2000, 12, 12, 13, 481, 481, 481, 481, 481, 481, 481, 3848, 481, 8, 200, 200, 200, 200, 200, 156, 156, 156, 72, 8, 8, 8, 8, 8, 8, 8, 8, 8, 8, 320, 320, 320, 320, 320, 112, 624]
def RMl : List (Option Nat) := [none, some 1, none, none, some 2, some 3, some 4, none, some 5, some 6, some 7, some 8, some 9, some 10, some 11, some 12, some 13, none, none, none, none, none, none, none, none, none, none, some 14, none, some 15, some 16, some 17, some 18, some 19, none, some 20, some 21, some 22, some 23, some 24, some 25, some 26, some 27, some 28, some 29, some 30, some 31, some 32, some 33, some 34, some 35, some 36, some 37, some 38, none, none, some 39, none, some 40, none]
def KM (c : Nat) : Nat := KMl.getD c 99
def NM (c : Nat) : Nat := NMl.getD c 0
def RM (c k : Nat) : Option Nat := if c = 0 then RMl.getD k none else none
def hM (S : HS) : Prop := gK S = KM ∧ gN S = NM ∧ gR S = RM ∧ 41 ≤ gZ S
def hMz (z : Nat) (S : HS) : Prop := hM S ∧ gZ S = z
theorem hMk {S : HS} (h : hM S) (c : Nat) {κ : Nat} (e : KM c = κ) : gK S c = κ := by rw [h.1]; exact e
theorem hMn {S : HS} (h : hM S) (c : Nat) {κ : Nat} (e : NM c = κ) : gN S c = κ := by rw [h.2.1]; exact e
theorem hMr {S : HS} (h : hM S) (c k : Nat) {o : Option Nat} (e : RM c k = o) : gR S c k = o := by rw [h.2.2.1]; exact e
theorem hMfr {S : HS} (h : hM S) : hFr S := by
  intro c hc
  have h4 := h.2.2.2
  rw [h.1]
  unfold KM
  rw [List.getD_eq_getElem?_getD, List.getElem?_eq_none_iff.mpr (by show 41 ≤ c; omega)]
  rfl
/-! isLetter -/
noncomputable def fn_X9_isLetter_29  (y0 : Int32) (S : HS) : Option (Int32 × HS) := gd (y0 = 0 ∨ y0 = 1) (some (y0, S))
noncomputable def fn_X9_isLetter_28   (S : HS) : Option (Int32 × HS) := fn_X9_isLetter_29 0 S
noncomputable def fn_X9_isLetter_24   (S : HS) : Option (Int32 × HS) := fn_X9_isLetter_29 1 S
noncomputable def fn_X9_isLetter_12  (x0 : Int32) (S : HS) : Option (Int32 × HS) := cd (x0 < 65) (fn_X9_isLetter_28 S) (cd (90 < x0) (fn_X9_isLetter_28 S) (fn_X9_isLetter_24 S))
noncomputable def fn_X9_isLetter (x0 : Int32) (S : HS) : Option (Int32 × HS) := cd (x0 < 97) (fn_X9_isLetter_12 x0 S) (cd (x0 ≤ 122) (fn_X9_isLetter_24 S) (fn_X9_isLetter_12 x0 S))
/-! isDigit -/
noncomputable def fn_X9_isDigit_17  (y0 : Int32) (S : HS) : Option (Int32 × HS) := gd (y0 = 0 ∨ y0 = 1) (some (y0, S))
noncomputable def fn_X9_isDigit_16   (S : HS) : Option (Int32 × HS) := fn_X9_isDigit_17 0 S
noncomputable def fn_X9_isDigit (x0 : Int32) (S : HS) : Option (Int32 × HS) := cd (x0 < 48) (fn_X9_isDigit_16 S) (cd (57 < x0) (fn_X9_isDigit_16 S) (fn_X9_isDigit_17 1 S))
/-! here -/
noncomputable def fn_X9_here_24  (y0 : Int32) (S : HS) : Option (Int32 × HS) := some (y0, S)
noncomputable def fn_X9_here  (S : HS) : Option (Int32 × HS) := cd ((gI S 0 17) ≤ (gI S 0 18)) (fn_X9_here_24 (-1) S) (gd (vp_in (gI S 0 18) 2000) (fn_X9_here_24 (gI S 1 (gI S 0 18 : Int32).toNatClampNeg) S))
/-! feed -/
noncomputable def fn_X9_feed_73 (k20 : Int32 → Int32 → Int32 → Int32 → Int32 → Int32 → HS → Option (Int32 × HS)) (x1 : Int32) (x2 : Int32) (x3 : Int32) (x4 : Int32) (x5 : Int32) (x6 : Int32) (y0 : Int32) (S : HS) : Option (Int32 × HS) := gd (vp_in ((gI S 0 2) + x6) 2000) (bn (some (sI S 1 ((gI S 0 2) + x6 : Int32).toNatClampNeg ((y0 >>> ((24 - (8 * (x6 - x6 / 4 * 4))) &&& 31)) &&& 255))) (fun S2 => bn (some (x6 + 1)) (fun v3 => k20 x1 x2 x3 x4 x5 v3 S2)))
noncomputable def fn_X9_feed_20  : Nat → Int32 → Int32 → Int32 → Int32 → Int32 → Int32 → HS → Option (Int32 × HS)
  | 0, _, _, _, _, _, _, _ => none
  | n + 1, x1, x2, x3, x4, x5, x6, S => cd (20 ≤ x6) (bn (some (sI S 0 2 ((gI S 0 2) + 20))) (fun S1 => some (gI S1 0 2, S1))) (cd (4 ≤ x6) (cd (8 ≤ x6) (cd (12 ≤ x6) (cd (16 ≤ x6) (fn_X9_feed_73 (fn_X9_feed_20 n) x1 x2 x3 x4 x5 x6 x5 S) (fn_X9_feed_73 (fn_X9_feed_20 n) x1 x2 x3 x4 x5 x6 x4 S)) (fn_X9_feed_73 (fn_X9_feed_20 n) x1 x2 x3 x4 x5 x6 x3 S)) (fn_X9_feed_73 (fn_X9_feed_20 n) x1 x2 x3 x4 x5 x6 x2 S)) (fn_X9_feed_73 (fn_X9_feed_20 n) x1 x2 x3 x4 x5 x6 x1 S))
noncomputable def fn_X9_feed (x1 : Int32) (x2 : Int32) (x3 : Int32) (x4 : Int32) (x5 : Int32) (S : HS) : Option (Int32 × HS) := bn (some (sI S 0 0 0)) (fun S1 => cd ((gI S1 0 2) ≤ 1980) (fn_X9_feed_20 hFuel x1 x2 x3 x4 x5 0 S1) (some ((-1), S1)))
/-! wrong -/
noncomputable def fn_X9_wrong (x1 : Int32) (x2 : Int32) (S : HS) : Option HS := cd ((gI S 0 22) = 0) (bn (some (sI S 0 22 x1)) (fun S1 => bn (some (sI S1 0 23 x2)) (fun S2 => some S2))) (some S)
/-! isSign -/
noncomputable def fn_X9_isSign_28  (y0 : Int32) (S : HS) : Option (Int32 × HS) := gd (y0 = 0 ∨ y0 = 1) (some (y0, S))
noncomputable def fn_X9_isSign_27   (S : HS) : Option (Int32 × HS) := fn_X9_isSign_28 0 S
noncomputable def fn_X9_isSign (x1 : Int32) (S : HS) : Option (Int32 × HS) := cd ((gI S 0 22) = 0) (cd ((gI S 0 20) = 4) (cd ((gI S 0 21) = x1) (fn_X9_isSign_28 1 S) (fn_X9_isSign_27 S)) (fn_X9_isSign_27 S)) (fn_X9_isSign_27 S)
/-! word -/
noncomputable def fn_X9_word_179 (k71 : Int32 → Int32 → HS → Option HS) : Nat → Int32 → Int32 → HS → Option HS
  | 0, _, _, _ => none
  | n + 1, x2, x3, S => gd (vp_in x3 40) (cd ((hCh 8 x3.toNatClampNeg) = 32) (bn (some (x3 + 1)) (fun v2 => bn (some (x2 + 1)) (fun v3 => k71 v3 v2 S))) (bn (some (x3 + 1)) (fun v4 => (fn_X9_word_179 k71 n) x2 v4 S)))
noncomputable def fn_X9_word_141 (k71 : Int32 → Int32 → HS → Option HS) (x2 : Int32) (x3 : Int32) (x4 : Int32) (S : HS) : Option HS := gd (vp_in (x3 + x4) 40) (cd ((hCh 8 (x3 + x4 : Int32).toNatClampNeg) = 32) (cd (((gI S 0 19) + x4) = (gI S 0 18)) (bn (some (sI S 0 20 0)) (fun S2 => bn (some (sI S2 0 21 x2)) (fun S3 => fn_X9_word_179 k71 hFuel x2 x3 S3))) (fn_X9_word_179 k71 hFuel x2 x3 S)) (fn_X9_word_179 k71 hFuel x2 x3 S))
noncomputable def fn_X9_word_83 (k71 : Int32 → Int32 → HS → Option HS) : Nat → Int32 → Int32 → Int32 → HS → Option HS
  | 0, _, _, _, _ => none
  | n + 1, x2, x3, x4, S => gd (vp_in (x3 + x4) 40) (cd ((hCh 8 (x3 + x4 : Int32).toNatClampNeg) = 32) (fn_X9_word_141 k71 x2 x3 x4 S) (cd ((gI S 0 18) ≤ ((gI S 0 19) + x4)) (fn_X9_word_141 k71 x2 x3 x4 S) (gd (vp_in ((gI S 0 19) + x4) 2000) (gd (vp_in (x3 + x4) 40) (cd ((gI S 1 ((gI S 0 19) + x4 : Int32).toNatClampNeg) = (hCh 8 (x3 + x4 : Int32).toNatClampNeg)) (bn (some (x4 + 1)) (fun v4 => (fn_X9_word_83 k71 n) x2 x3 v4 S)) (fn_X9_word_141 k71 x2 x3 x4 S))))))
noncomputable def fn_X9_word_71  : Nat → Int32 → Int32 → HS → Option HS
  | 0, _, _, _ => none
  | n + 1, x2, x3, S => cd ((nI 40) ≤ x3) (some S) (fn_X9_word_83 (fn_X9_word_71 n) hFuel x2 x3 0 S)
noncomputable def fn_X9_word_57  (y0 : Int32) (S : HS) : Option HS := bn (some (sI S 0 21 y0)) (fun S1 => some S1)
noncomputable def fn_X9_word_36  (x1 : Int32) (y0 : Int32) (S : HS) : Option HS := bn (some (sI S 0 20 y0)) (fun S1 => cd (x1 < 97) (fn_X9_word_57 (x1 - 65) S1) (fn_X9_word_57 (x1 - 97) S1))
noncomputable def fn_X9_word (x1 : Int32) (S : HS) : Option HS := cd ((gI S 0 18) = ((gI S 0 19) + 1)) (cd (x1 < 97) (cd (70 < x1) (fn_X9_word_36 x1 6 S) (fn_X9_word_36 x1 2 S)) (fn_X9_word_36 x1 1 S)) (bn (some (sI S 0 20 6)) (fun S1 => fn_X9_word_71 hFuel 0 0 S1))
/-! next -/
noncomputable def fn_X9_next_238   (S : HS) : Option HS := some S
noncomputable def fn_X9_next_235  (y0 : Int32) (S : HS) : Option HS := bn (some (sI S 0 20 y0)) (fun S1 => fn_X9_next_238 S1)
noncomputable def fn_X9_next_229   (S : HS) : Option HS := fn_X9_next_235 4 S
noncomputable def fn_X9_next_155 (k112 : HS → Option HS) (y0 : Int32) (S : HS) : Option HS := bn (some (sI S 0 21 y0)) (fun S1 => bn (some (sI S1 0 18 ((gI S1 0 18) + 1))) (fun S2 => k112 S2))
noncomputable def fn_X9_next_112  : Nat → HS → Option HS
  | 0, _ => none
  | n + 1, S => bn2 (fn_X9_here S) (fun r2 S1 => bn2 (fn_X9_isDigit r2 S1) (fun r4 S3 => cd (r4 = 0) (fn_X9_next_238 S3) (cd ((gI S3 0 21) ≤ 9999) (bn2 (fn_X9_here S3) (fun r6 S5 => fn_X9_next_155 (fn_X9_next_112 n) (((10 * (gI S3 0 21)) + r6) - 48) S5)) (fn_X9_next_155 (fn_X9_next_112 n) (gI S3 0 21) S3))))
noncomputable def fn_X9_next_64  : Nat → Int32 → HS → Option HS
  | 0, _, _ => none
  | n + 1, x1, S => bn2 (fn_X9_here S) (fun r2 S1 => bn2 (fn_X9_isLetter r2 S1) (fun r4 S3 => cd (r4 = 0) (bn (fn_X9_word x1 S3) (fun S5 => fn_X9_next_238 S5)) (bn (some (sI S3 0 18 ((gI S3 0 18) + 1))) (fun S6 => (fn_X9_next_64 n) x1 S6))))
noncomputable def fn_X9_next_18 (k0 : HS → Option HS)  (S : HS) : Option HS := bn (some (sI S 0 18 ((gI S 0 18) + 1))) (fun S1 => k0 S1)
noncomputable def fn_X9_next_0  : Nat → HS → Option HS
  | 0, _ => none
  | n + 1, S => bn2 (fn_X9_here S) (fun r2 S1 => cd (r2 = 10) (fn_X9_next_18 (fn_X9_next_0 n) S1) (bn2 (fn_X9_here S1) (fun r4 S3 => cd (r4 = 32) (fn_X9_next_18 (fn_X9_next_0 n) S3) (bn (some (sI S3 0 19 (gI S3 0 18))) (fun S5 => bn2 (fn_X9_here S5) (fun r7 S6 => cd (r7 = (-1)) (bn (some (sI S6 0 20 5)) (fun S16 => fn_X9_next_238 S16)) (bn2 (fn_X9_isLetter r7 S6) (fun r9 S8 => cd (r9 = 0) (bn2 (fn_X9_isDigit r7 S8) (fun r11 S10 => cd (r11 = 0) (bn (some (sI S10 0 18 ((gI S10 0 18) + 1))) (fun S12 => bn (some (sI S12 0 21 r7)) (fun S13 => cd (r7 = 61) (fn_X9_next_229 S13) (cd (r7 = 58) (fn_X9_next_229 S13) (cd (r7 = 44) (fn_X9_next_229 S13) (cd (r7 = 59) (fn_X9_next_229 S13) (cd (r7 = 60) (fn_X9_next_229 S13) (cd (r7 = 62) (fn_X9_next_229 S13) (cd (r7 = 37) (fn_X9_next_229 S13) (fn_X9_next_235 6 S13)))))))))) (bn (some (sI S10 0 20 3)) (fun S14 => bn (some (sI S14 0 21 0)) (fun S15 => fn_X9_next_112 hFuel S15))))) (fn_X9_next_64 hFuel r7 S8)))))))))
noncomputable def fn_X9_next  (S : HS) : Option HS := fn_X9_next_0 hFuel S
/-! takes -/
noncomputable def fn_X9_takes_56  (x2 : Int32) (S : HS) : Option (Int32 × HS) := bn (fn_X9_next S) (fun S1 => some (x2, S1))
noncomputable def fn_X9_takes (x1 : Int32) (S : HS) : Option (Int32 × HS) := cd ((gI S 0 22) = 0) (cd ((gI S 0 20) = x1) (bn (some (gI S 0 21)) (fun v1 => cd (x1 = 3) (cd (v1 ≤ 9999) (fn_X9_takes_56 v1 S) (bn (fn_X9_wrong 2 (gI S 0 19) S) (fun S2 => some (0, S2)))) (fn_X9_takes_56 v1 S))) (bn (fn_X9_wrong 1 (gI S 0 19) S) (fun S3 => some (0, S3)))) (some (0, S))
/-! wants -/
noncomputable def fn_X9_wants_24   (S : HS) : Option HS := some S
noncomputable def fn_X9_wants (x1 : Int32) (S : HS) : Option HS := bn2 (fn_X9_isSign x1 S) (fun r2 S1 => cd (r2 = 0) (bn (fn_X9_wrong 1 (gI S1 0 19) S1) (fun S4 => fn_X9_wants_24 S4)) (bn (fn_X9_next S1) (fun S3 => fn_X9_wants_24 S3)))
/-! scaleNumber -/
noncomputable def fn_X9_scaleNumber_35  (x1 : Int32) (S : HS) : Option HS := bn2 (fn_X9_takes 3 S) (fun r2 S1 => cd ((gI S1 0 22) = 0) (gd (vp_in x1 481) (gd (vp_in ((8 * x1) + (gI S1 13 x1.toNatClampNeg)) 3848) (bn (some (sI S1 12 ((8 * x1) + (gI S1 13 x1.toNatClampNeg) : Int32).toNatClampNeg r2)) (fun S5 => gd (vp_in x1 481) (gd (vp_in x1 481) (bn (some (sI S5 13 x1.toNatClampNeg ((gI S5 13 x1.toNatClampNeg) + 1))) (fun S8 => some S8))))))) (some S1))
noncomputable def fn_X9_scaleNumber (x1 : Int32) (S : HS) : Option HS := cd ((gI S 0 22) = 0) (cd ((gI S 0 20) = 3) (gd (vp_in x1 481) (cd ((gI S 13 x1.toNatClampNeg) = 8) (bn (fn_X9_wrong 2 (gI S 0 19) S) (fun S2 => fn_X9_scaleNumber_35 x1 S2)) (fn_X9_scaleNumber_35 x1 S))) (fn_X9_scaleNumber_35 x1 S)) (fn_X9_scaleNumber_35 x1 S)
/-! factOf -/
noncomputable def fn_X9_factOf_56  (x1 : Int32) (S : HS) : Option HS := gd (vp_in x1 481) (bn (some (sI S 8 x1.toNatClampNeg (gI S 0 21))) (fun S2 => bn (fn_X9_next S2) (fun S3 => bn2 (fn_X9_takes 3 S3) (fun r5 S4 => gd (vp_in x1 481) (bn (some (sI S4 9 x1.toNatClampNeg r5)) (fun S7 => some S7))))))
noncomputable def fn_X9_factOf (x1 : Int32) (S : HS) : Option HS := bn2 (fn_X9_takes 2 S) (fun r2 S1 => gd (vp_in x1 481) (bn (some (sI S1 7 x1.toNatClampNeg r2)) (fun S4 => cd ((gI S4 0 22) = 0) (bn2 (fn_X9_isSign 60 S4) (fun r6 S5 => cd (r6 = 0) (bn2 (fn_X9_isSign 62 S5) (fun r8 S7 => cd (r8 = 0) (bn2 (fn_X9_isSign 61 S7) (fun r10 S9 => cd (r10 = 0) (bn (fn_X9_wrong 1 (gI S9 0 19) S9) (fun S11 => some S11)) (fn_X9_factOf_56 x1 S9))) (fn_X9_factOf_56 x1 S7))) (fn_X9_factOf_56 x1 S5))) (some S4))))
/-! named -/
noncomputable def fn_X9_named_197   (S : HS) : Option HS := some S
noncomputable def fn_X9_named_186  (x1 : Int32) (S : HS) : Option HS := gd (vp_in x1 481) (bn (some (sI S 11 x1.toNatClampNeg 1)) (fun S2 => bn (fn_X9_next S2) (fun S3 => fn_X9_named_197 S3)))
noncomputable def fn_X9_named_164   (S : HS) : Option HS := some S
noncomputable def fn_X9_named_133  (x1 : Int32) (x2 : Int32) (S : HS) : Option HS := bn (fn_X9_wants 61 S) (fun S1 => bn2 (fn_X9_takes 3 S1) (fun r3 S2 => gd (vp_in x1 481) (bn (some (sI S2 10 x1.toNatClampNeg r3)) (fun S5 => cd (x2 = 5) (bn2 (fn_X9_isSign 37 S5) (fun r7 S6 => cd (r7 = 0) (fn_X9_named_164 S6) (gd (vp_in x1 481) (cd ((gI S6 10 x1.toNatClampNeg) ≤ 999) (fn_X9_named_186 x1 S6) (bn (fn_X9_wrong 2 (gI S6 0 19) S6) (fun S9 => fn_X9_named_186 x1 S9)))))) (fn_X9_named_164 S5)))))
noncomputable def fn_X9_named_128  (x1 : Int32) (x2 : Int32) (S : HS) : Option HS := bn (fn_X9_factOf x1 S) (fun S1 => fn_X9_named_133 x1 x2 S1)
noncomputable def fn_X9_named_88  : Nat → Int32 → HS → Option HS
  | 0, _, _ => none
  | n + 1, x1, S => bn2 (fn_X9_isSign 44 S) (fun r2 S1 => cd (r2 = 0) (fn_X9_named_197 S1) (bn (fn_X9_next S1) (fun S3 => bn (fn_X9_scaleNumber x1 S3) (fun S4 => (fn_X9_named_88 n) x1 S4))))
noncomputable def fn_X9_named_51  (x1 : Int32) (S : HS) : Option HS := bn2 (fn_X9_takes 3 S) (fun r2 S1 => gd (vp_in x1 481) (bn (some (sI S1 10 x1.toNatClampNeg r2)) (fun S4 => fn_X9_named_197 S4)))
noncomputable def fn_X9_named_40  (x1 : Int32) (S : HS) : Option HS := cd ((gI S 0 22) = 0) (bn (fn_X9_next S) (fun S1 => fn_X9_named_51 x1 S1)) (fn_X9_named_51 x1 S)
noncomputable def fn_X9_named_28  (x1 : Int32) (S : HS) : Option HS := bn (fn_X9_wrong 1 (gI S 0 19) S) (fun S1 => fn_X9_named_51 x1 S1)
noncomputable def fn_X9_named (x1 : Int32) (x2 : Int32) (S : HS) : Option HS := cd (x2 = 1) (cd ((gI S 0 22) = 0) (cd ((gI S 0 20) = 0) (cd ((gI S 0 21) = 7) (fn_X9_named_40 x1 S) (fn_X9_named_28 x1 S)) (fn_X9_named_28 x1 S)) (fn_X9_named_40 x1 S)) (cd (x2 = 2) (bn (fn_X9_wants 58 S) (fun S1 => gd (vp_in x1 481) (bn (some (sI S1 13 x1.toNatClampNeg 0)) (fun S3 => bn (fn_X9_scaleNumber x1 S3) (fun S4 => fn_X9_named_88 hFuel x1 S4))))) (cd (x2 = 0) (fn_X9_named_128 x1 x2 S) (cd ((gI S 0 22) = 0) (cd ((gI S 0 20) = 2) (fn_X9_named_128 x1 x2 S) (fn_X9_named_133 x1 x2 S)) (fn_X9_named_133 x1 x2 S))))
/-! line -/
noncomputable def fn_X9_line_303 (k275 : Int32 → Int32 → Int32 → HS → Option HS) (x2 : Int32) (x3 : Int32) (x5 : Int32) (S : HS) : Option HS := bn (some (x5 + 1)) (fun v1 => k275 x2 x3 v1 S)
noncomputable def fn_X9_line_275  : Nat → Int32 → Int32 → Int32 → HS → Option HS
  | 0, _, _, _, _ => none
  | n + 1, x2, x3, x5, S => cd (x3 ≤ x5) (bn (some (sI S 0 26 ((gI S 0 26) + 1))) (fun S1 => some S1)) (gd (vp_in x5 481) (gd (vp_in x3 481) (cd ((gI S 5 x5.toNatClampNeg) = (gI S 5 x3.toNatClampNeg)) (bn (fn_X9_wrong 3 x2 S) (fun S4 => fn_X9_line_303 (fn_X9_line_275 n) x2 x3 x5 S4)) (fn_X9_line_303 (fn_X9_line_275 n) x2 x3 x5 S))))
noncomputable def fn_X9_line_264  (x1 : Int32) (x2 : Int32) (x3 : Int32) (S : HS) : Option HS := cd ((gI S 0 22) = 0) (fn_X9_line_275 hFuel x2 x3 x1 S) (some S)
noncomputable def fn_X9_line_226  (x1 : Int32) (x2 : Int32) (x3 : Int32) (S : HS) : Option HS := bn2 (fn_X9_takes 3 S) (fun r2 S1 => gd (vp_in x3 481) (bn (some (sI S1 10 x3.toNatClampNeg r2)) (fun S4 => fn_X9_line_264 x1 x2 x3 S4)))
noncomputable def fn_X9_line_185  (x1 : Int32) (x2 : Int32) (x3 : Int32) (x4 : Int32) (S : HS) : Option HS := gd (vp_in x3 481) (bn (some (sI S 5 x3.toNatClampNeg (26 * x4))) (fun S2 => cd (x4 = 3) (cd ((gI S2 0 20) = 3) (cd ((gI S2 0 21) = 0) (bn (fn_X9_wrong 2 (gI S2 0 19) S2) (fun S3 => fn_X9_line_226 x1 x2 x3 S3)) (fn_X9_line_226 x1 x2 x3 S2)) (fn_X9_line_226 x1 x2 x3 S2)) (fn_X9_line_226 x1 x2 x3 S2)))
noncomputable def fn_X9_line_131  (x1 : Int32) (x2 : Int32) (x3 : Int32) (y0 : Int32) (S : HS) : Option HS := cd (y0 = (-1)) (bn (fn_X9_wrong 1 (gI S 0 19) S) (fun S6 => some S6)) (bn (fn_X9_next S) (fun S1 => bn2 (fn_X9_takes 1 S1) (fun r3 S2 => gd (vp_in x3 481) (bn (some (sI S2 5 x3.toNatClampNeg ((26 * y0) + r3))) (fun S5 => fn_X9_line_264 x1 x2 x3 S5)))))
noncomputable def fn_X9_line_130  (x1 : Int32) (x2 : Int32) (x3 : Int32) (S : HS) : Option HS := fn_X9_line_131 x1 x2 x3 (-1) S
noncomputable def fn_X9_line_123  (x1 : Int32) (x2 : Int32) (x3 : Int32) (S : HS) : Option HS := fn_X9_line_131 x1 x2 x3 (gI S 0 21) S
noncomputable def fn_X9_line_74  (x1 : Int32) (x2 : Int32) (x3 : Int32) (x4 : Int32) (y0 : Int32) (y1 : Int32) (S : HS) : Option HS := gd (vp_in y1 481) (gd (y0 = 0 ∨ y0 = 1) (bn (some (sI S 6 y1.toNatClampNeg y0)) (fun S3 => gd (vp_in x3 481) (bn (some (sI S3 7 x3.toNatClampNeg (-1))) (fun S5 => gd (vp_in x3 481) (bn (some (sI S5 11 x3.toNatClampNeg 0)) (fun S7 => bn (fn_X9_next S7) (fun S8 => cd (x4 = 6) (cd ((gI S8 0 20) = 0) (cd ((gI S8 0 21) ≤ 2) (fn_X9_line_123 x1 x2 x3 S8) (cd ((gI S8 0 21) = 5) (fn_X9_line_123 x1 x2 x3 S8) (fn_X9_line_130 x1 x2 x3 S8))) (fn_X9_line_130 x1 x2 x3 S8)) (cd (x4 = 3) (fn_X9_line_185 x1 x2 x3 x4 S8) (cd (x4 = 4) (fn_X9_line_185 x1 x2 x3 x4 S8) (bn2 (fn_X9_takes 1 S8) (fun r10 S9 => gd (vp_in x3 481) (bn (some (sI S9 5 x3.toNatClampNeg ((26 * x4) + r10))) (fun S12 => bn (fn_X9_named x3 x4 S12) (fun S13 => fn_X9_line_264 x1 x2 x3 S13)))))))))))))))
noncomputable def fn_X9_line_21  (x2 : Int32) (S : HS) : Option HS := bn (fn_X9_wrong 1 x2 S) (fun S1 => some S1)
noncomputable def fn_X9_line (x1 : Int32) (S : HS) : Option HS := bn (some (gI S 0 19)) (fun v1 => cd ((gI S 0 20) = 0) (cd ((gI S 0 21) = 7) (fn_X9_line_21 v1 S) (cd (((gI S 0 26) - x1) = 40) (bn (fn_X9_wrong 2 v1 S) (fun S4 => some S4)) (bn (some (gI S 0 26)) (fun v2 => bn (some (gI S 0 21)) (fun v3 => cd (v3 = 6) (fn_X9_line_74 x1 v1 v2 v3 1 v2 S) (fn_X9_line_74 x1 v1 v2 v3 0 v2 S)))))) (fn_X9_line_21 v1 S))
/-! parses -/
noncomputable def fn_X9_parses_63   (S : HS) : Option HS := some S
noncomputable def fn_X9_parses_34  : Nat → Int32 → HS → Option HS
  | 0, _, _ => none
  | n + 1, x1, S => cd ((gI S 0 22) = 0) (cd ((gI S 0 20) = 5) (fn_X9_parses_63 S) (bn (fn_X9_line x1 S) (fun S1 => bn (fn_X9_wants 59 S1) (fun S2 => (fn_X9_parses_34 n) x1 S2)))) (fn_X9_parses_63 S)
noncomputable def fn_X9_parses  (S : HS) : Option HS := bn (some (sI S 0 18 0)) (fun S1 => bn (some (sI S1 0 22 0)) (fun S2 => bn (some (sI S2 0 23 (-1))) (fun S3 => gd (vp_in (gI S3 0 7) 13) (bn (some (gI S3 4 (gI S3 0 7 : Int32).toNatClampNeg)) (fun v5 => bn (some (sI S3 0 26 v5)) (fun S6 => bn (fn_X9_next S6) (fun S7 => fn_X9_parses_34 hFuel v5 S7)))))))
/-! agree -/
noncomputable def fn_X9_agree_37   (S : HS) : Option (Int32 × HS) := some ((-2), S)
noncomputable def fn_X9_agree (x1 : Int32) (x2 : Int32) (S : HS) : Option (Int32 × HS) := bn (some (sI S 0 0 0)) (fun S1 => cd (x1 < 0) (fn_X9_agree_37 S1) (cd ((gI S1 0 2) < x1) (fn_X9_agree_37 S1) (cd (x2 < 0) (fn_X9_agree_37 S1) (cd (1200 ≤ x2) (fn_X9_agree_37 S1) (cd ((gI S1 0 7) = 12) (fn_X9_agree_37 S1) (bn (some (sI S1 0 17 x1)) (fun S2 => bn (some (sI S2 0 2 0)) (fun S3 => bn (fn_X9_parses S3) (fun S4 => bn (some (sI S4 0 24 (gI S4 0 22))) (fun S5 => bn (some (sI S5 0 25 (gI S5 0 23))) (fun S6 => cd ((gI S6 0 22) = 0) (gd (vp_in (gI S6 0 7) 12) (bn (some (sI S6 2 (gI S6 0 7 : Int32).toNatClampNeg (gI S6 0 3))) (fun S8 => gd (vp_in (gI S8 0 7) 12) (bn (some (sI S8 3 (gI S8 0 7 : Int32).toNatClampNeg x2)) (fun S10 => bn (some (sI S10 0 7 ((gI S10 0 7) + 1))) (fun S11 => gd (vp_in (gI S11 0 7) 13) (bn (some (sI S11 4 (gI S11 0 7 : Int32).toNatClampNeg (gI S11 0 26))) (fun S13 => some ((gI S13 0 7) - 1, S13))))))))) (some ((-1), S6)))))))))))))
/-! fault -/
noncomputable def fn_X9_fault_29  (y0 : Int32) (S : HS) : Option (Int32 × HS) := some (y0, S)
noncomputable def fn_X9_fault (x1 : Int32) (S : HS) : Option (Int32 × HS) := bn (some (sI S 0 0 0)) (fun S1 => cd (x1 = 0) (fn_X9_fault_29 (gI S1 0 24) S1) (cd (x1 = 1) (fn_X9_fault_29 (gI S1 0 25) S1) (fn_X9_fault_29 (-1) S1)))
/-! pass -/
noncomputable def fn_X9_pass_28   (S : HS) : Option (Int32 × HS) := some ((-1), S)
noncomputable def fn_X9_pass (x1 : Int32) (S : HS) : Option (Int32 × HS) := bn (some (sI S 0 0 0)) (fun S1 => cd (x1 < 0) (fn_X9_pass_28 S1) (cd (1200 < x1) (fn_X9_pass_28 S1) (cd (((gI S1 0 3) + x1) < 1200) (bn (some (sI S1 0 3 ((gI S1 0 3) + x1))) (fun S2 => some (gI S2 0 3, S2))) (fn_X9_pass_28 S1))))
/-! post -/
noncomputable def fn_X9_post_24   (S : HS) : Option (Int32 × HS) := some ((-1), S)
noncomputable def fn_X9_post (x1 : Int32) (S : HS) : Option (Int32 × HS) := bn (some (sI S 0 0 0)) (fun S1 => cd (x1 < 0) (fn_X9_post_24 S1) (cd (7 < x1) (fn_X9_post_24 S1) (cd ((gI S1 0 28) = 8) (fn_X9_post_24 S1) (gd (vp_in (gI S1 0 28) 8) (bn (some (sI S1 14 (gI S1 0 28 : Int32).toNatClampNeg x1)) (fun S3 => bn (some (sI S3 0 28 ((gI S3 0 28) + 1))) (fun S4 => some ((gI S4 0 28) - 1, S4))))))))
/-! isValue -/
noncomputable def fn_X9_isValue_84  (y0 : Int32) (S : HS) : Option (Int32 × HS) := gd (y0 = 0 ∨ y0 = 1) (some (y0, S))
noncomputable def fn_X9_isValue_83   (S : HS) : Option (Int32 × HS) := fn_X9_isValue_84 0 S
noncomputable def fn_X9_isValue_46  (y0 : Int32) (S : HS) : Option (Int32 × HS) := gd (y0 = 0 ∨ y0 = 1) (some (y0, S))
noncomputable def fn_X9_isValue_41   (S : HS) : Option (Int32 × HS) := fn_X9_isValue_46 1 S
noncomputable def fn_X9_isValue_25  (y0 : Int32) (S : HS) : Option (Int32 × HS) := gd (y0 = 0 ∨ y0 = 1) (some (y0, S))
noncomputable def fn_X9_isValue_24   (S : HS) : Option (Int32 × HS) := fn_X9_isValue_25 0 S
noncomputable def fn_X9_isValue (x0 : Int32) (x1 : Int32) (S : HS) : Option (Int32 × HS) := cd (6 ≤ x0) (cd (x0 = 7) (cd (x1 ≤ 0) (fn_X9_isValue_83 S) (cd ((x1 - x1 / 10 * 10) < 1) (fn_X9_isValue_83 S) (cd (8 < (x1 - x1 / 10 * 10)) (fn_X9_isValue_83 S) (cd ((x1 - x1 / 10 * 10) < (x1 / 10)) (fn_X9_isValue_83 S) (fn_X9_isValue_84 1 S))))) (cd (x1 = 0) (fn_X9_isValue_41 S) (cd (x1 = 1) (fn_X9_isValue_41 S) (fn_X9_isValue_46 0 S)))) (cd (x1 < (-9999)) (fn_X9_isValue_24 S) (cd (9999 < x1) (fn_X9_isValue_24 S) (fn_X9_isValue_25 1 S)))
/-! note -/
noncomputable def fn_X9_note_57   (S : HS) : Option (Int32 × HS) := some ((-1), S)
noncomputable def fn_X9_note (x1 : Int32) (x2 : Int32) (x3 : Int32) (x4 : Int32) (S : HS) : Option (Int32 × HS) := bn (some (sI S 0 0 0)) (fun S1 => cd (x1 < 0) (fn_X9_note_57 S1) (cd ((gI S1 0 28) ≤ x1) (fn_X9_note_57 S1) (cd (x2 < 0) (fn_X9_note_57 S1) (cd (8 < x2) (fn_X9_note_57 S1) (cd (x3 < 0) (fn_X9_note_57 S1) (cd (1200 ≤ x3) (fn_X9_note_57 S1) (bn2 (fn_X9_isValue x2 x4 S1) (fun r3 S2 => cd (r3 = 0) (fn_X9_note_57 S2) (cd ((gI S2 0 34) = 200) (fn_X9_note_57 S2) (gd (vp_in (gI S2 0 34) 200) (bn (some (sI S2 15 (gI S2 0 34 : Int32).toNatClampNeg x1)) (fun S5 => gd (vp_in (gI S5 0 34) 200) (bn (some (sI S5 16 (gI S5 0 34 : Int32).toNatClampNeg x2)) (fun S7 => gd (vp_in (gI S7 0 34) 200) (bn (some (sI S7 17 (gI S7 0 34 : Int32).toNatClampNeg x3)) (fun S9 => gd (vp_in (gI S9 0 34) 200) (bn (some (sI S9 18 (gI S9 0 34 : Int32).toNatClampNeg (gI S9 0 3))) (fun S11 => gd (vp_in (gI S11 0 34) 200) (bn (some (sI S11 19 (gI S11 0 34 : Int32).toNatClampNeg x4)) (fun S13 => bn (some (sI S13 0 34 ((gI S13 0 34) + 1))) (fun S14 => some (gI S14 0 34, S14))))))))))))))))))))))
/-! isBeginning -/
noncomputable def fn_X9_isBeginning_39 (k12 : Int32 → Int32 → Int32 → HS → Option (Int32 × HS)) (x1 : Int32) (x3 : Int32) (y0 : Int32) (S : HS) : Option (Int32 × HS) := bn (some (x3 + 1)) (fun v1 => k12 x1 y0 v1 S)
noncomputable def fn_X9_isBeginning_34 (k12 : Int32 → Int32 → Int32 → HS → Option (Int32 × HS)) (x1 : Int32) (x3 : Int32) (S : HS) : Option (Int32 × HS) := fn_X9_isBeginning_39 k12 x1 x3 1 S
noncomputable def fn_X9_isBeginning_12  : Nat → Int32 → Int32 → Int32 → HS → Option (Int32 × HS)
  | 0, _, _, _, _ => none
  | n + 1, x1, x2, x3, S => cd ((gI S 0 7) ≤ x3) (gd (x2 = 0 ∨ x2 = 1) (some (x2, S))) (cd (x2 = 0) (gd (vp_in x3 12) (cd ((gI S 3 x3.toNatClampNeg) = x1) (fn_X9_isBeginning_34 (fn_X9_isBeginning_12 n) x1 x3 S) (fn_X9_isBeginning_39 (fn_X9_isBeginning_12 n) x1 x3 0 S))) (fn_X9_isBeginning_34 (fn_X9_isBeginning_12 n) x1 x3 S))
noncomputable def fn_X9_isBeginning_9  (x1 : Int32) (y0 : Int32) (S : HS) : Option (Int32 × HS) := fn_X9_isBeginning_12 hFuel x1 y0 0 S
noncomputable def fn_X9_isBeginning (x1 : Int32) (S : HS) : Option (Int32 × HS) := cd (x1 = 0) (fn_X9_isBeginning_9 x1 1 S) (fn_X9_isBeginning_9 x1 0 S)
/-! numberOf -/
noncomputable def fn_X9_numberOf_25  (y0 : Int32) (S : HS) : Option (Int32 × HS) := some (y0, S)
noncomputable def fn_X9_numberOf (x1 : Int32) (x2 : Int32) (S : HS) : Option (Int32 × HS) := gd (vp_in (26 * x1) 156) (bn (some (gI S 20 (26 * x1 : Int32).toNatClampNeg)) (fun v2 => cd (v2 = (-1)) (fn_X9_numberOf_25 x2 S) (gd (vp_in v2 481) (fn_X9_numberOf_25 (gI S 10 v2.toNatClampNeg) S))))
/-! holds -/
noncomputable def fn_X9_holds_102  (y0 : Int32) (S : HS) : Option (Int32 × HS) := gd (y0 = 0 ∨ y0 = 1) (some (y0, S))
noncomputable def fn_X9_holds (x1 : Int32) (x2 : Int32) (S : HS) : Option (Int32 × HS) := gd (vp_in x2 481) (cd ((gI S 7 x2.toNatClampNeg) = (-1)) (some (1, S)) (gd (vp_in x2 481) (gd (vp_in ((9 * x1) + (gI S 7 x2.toNatClampNeg)) 72) (bn (some (gI S 23 ((9 * x1) + (gI S 7 x2.toNatClampNeg) : Int32).toNatClampNeg)) (fun v4 => gd (vp_in x2 481) (cd ((gI S 8 x2.toNatClampNeg) = 60) (gd (vp_in x2 481) (cd ((gI S 9 x2.toNatClampNeg) ≤ v4) (fn_X9_holds_102 0 S) (fn_X9_holds_102 1 S))) (gd (vp_in x2 481) (cd ((gI S 8 x2.toNatClampNeg) = 62) (gd (vp_in x2 481) (cd (v4 ≤ (gI S 9 x2.toNatClampNeg)) (fn_X9_holds_102 0 S) (fn_X9_holds_102 1 S))) (gd (vp_in x2 481) (cd (v4 = (gI S 9 x2.toNatClampNeg)) (fn_X9_holds_102 1 S) (fn_X9_holds_102 0 S)))))))))))
/-! lawsOf -/
noncomputable def fn_X9_lawsOf_182 (k38 : Int32 → Int32 → Int32 → HS → Option HS) (x1 : Int32) (x2 : Int32) (x3 : Int32) (S : HS) : Option HS := bn (some (x3 + 1)) (fun v1 => k38 x1 x2 v1 S)
noncomputable def fn_X9_lawsOf_176 (k38 : Int32 → Int32 → Int32 → HS → Option HS) (k77 : Int32 → Int32 → Int32 → Int32 → HS → Option HS) (x1 : Int32) (x2 : Int32) (x3 : Int32) (x4 : Int32) (S : HS) : Option HS := bn (some (x4 + 1)) (fun v1 => k77 x1 x2 x3 v1 S)
noncomputable def fn_X9_lawsOf_175 (k38 : Int32 → Int32 → Int32 → HS → Option HS) (k77 : Int32 → Int32 → Int32 → Int32 → HS → Option HS) (x1 : Int32) (x2 : Int32) (x3 : Int32) (x4 : Int32) (y0 : Int32) (y1 : Int32) (S : HS) : Option HS := gd (vp_in y1 156) (bn (some (sI S 20 y1.toNatClampNeg y0)) (fun S2 => fn_X9_lawsOf_176 k38 k77 x1 x2 x3 x4 S2))
noncomputable def fn_X9_lawsOf_145 (k38 : Int32 → Int32 → Int32 → HS → Option HS) (k77 : Int32 → Int32 → Int32 → Int32 → HS → Option HS) (x1 : Int32) (x2 : Int32) (x3 : Int32) (x4 : Int32) (x5 : Int32) (S : HS) : Option HS := gd (vp_in x5 156) (bn (some (sI S 21 x5.toNatClampNeg x3)) (fun S2 => gd (vp_in x4 481) (cd ((gI S2 6 x4.toNatClampNeg) = 0) (fn_X9_lawsOf_175 k38 k77 x1 x2 x3 x4 x4 x5 S2) (fn_X9_lawsOf_175 k38 k77 x1 x2 x3 x4 (-1) x5 S2))))
noncomputable def fn_X9_lawsOf_77 (k38 : Int32 → Int32 → Int32 → HS → Option HS) : Nat → Int32 → Int32 → Int32 → Int32 → HS → Option HS
  | 0, _, _, _, _, _ => none
  | n + 1, x1, x2, x3, x4, S => gd (vp_in (x3 + 1) 13) (cd ((gI S 4 (x3 + 1 : Int32).toNatClampNeg) ≤ x4) (fn_X9_lawsOf_182 k38 x1 x2 x3 S) (gd (vp_in x4 481) (bn (some (gI S 5 x4.toNatClampNeg)) (fun v3 => gd (vp_in v3 156) (gd (vp_in v3 156) (bn (some (sI S 22 v3.toNatClampNeg ((gI S 22 v3.toNatClampNeg) + 1))) (fun S6 => gd (vp_in v3 156) (cd ((gI S6 21 v3.toNatClampNeg) = (-1)) (fn_X9_lawsOf_145 k38 (fn_X9_lawsOf_77 k38 n) x1 x2 x3 x4 v3 S6) (gd (vp_in v3 156) (gd (vp_in (gI S6 21 v3.toNatClampNeg) 12) (gd (vp_in x3 12) (cd ((gI S6 3 (gI S6 21 v3.toNatClampNeg : Int32).toNatClampNeg) ≤ (gI S6 3 x3.toNatClampNeg)) (fn_X9_lawsOf_145 k38 (fn_X9_lawsOf_77 k38 n) x1 x2 x3 x4 v3 S6) (fn_X9_lawsOf_176 k38 (fn_X9_lawsOf_77 k38 n) x1 x2 x3 x4 S6)))))))))))))
noncomputable def fn_X9_lawsOf_38  : Nat → Int32 → Int32 → Int32 → HS → Option HS
  | 0, _, _, _, _ => none
  | n + 1, x1, x2, x3, S => cd ((gI S 0 7) ≤ x3) (some S) (gd (vp_in x3 12) (cd (x2 < (gI S 2 x3.toNatClampNeg)) (fn_X9_lawsOf_182 (fn_X9_lawsOf_38 n) x1 x2 x3 S) (gd (vp_in x3 12) (cd ((gI S 3 x3.toNatClampNeg) ≤ x1) (gd (vp_in x3 13) (bn (some (gI S 4 x3.toNatClampNeg)) (fun v4 => fn_X9_lawsOf_77 (fn_X9_lawsOf_38 n) hFuel x1 x2 x3 v4 S))) (fn_X9_lawsOf_182 (fn_X9_lawsOf_38 n) x1 x2 x3 S)))))
noncomputable def fn_X9_lawsOf_2  : Nat → Int32 → Int32 → Int32 → HS → Option HS
  | 0, _, _, _, _ => none
  | n + 1, x1, x2, x3, S => cd (156 ≤ x3) (fn_X9_lawsOf_38 hFuel x1 x2 0 S) (gd (vp_in x3 156) (bn (some (sI S 20 x3.toNatClampNeg (-1))) (fun S2 => gd (vp_in x3 156) (bn (some (sI S2 21 x3.toNatClampNeg (-1))) (fun S4 => gd (vp_in x3 156) (bn (some (sI S4 22 x3.toNatClampNeg 0)) (fun S6 => bn (some (x3 + 1)) (fun v7 => (fn_X9_lawsOf_2 n) x1 x2 v7 S6))))))))
noncomputable def fn_X9_lawsOf (x1 : Int32) (x2 : Int32) (S : HS) : Option HS := fn_X9_lawsOf_2 hFuel x1 x2 0 S
/-! serves -/
noncomputable def fn_X9_serves_135 (k9 : Int32 → Int32 → HS → Option HS) (x1 : Int32) (x2 : Int32) (y0 : Int32) (y1 : Int32) (S : HS) : Option HS := gd (vp_in y1 8) (bn (some (sI S 24 y1.toNatClampNeg y0)) (fun S2 => bn (some (x2 + 1)) (fun v3 => k9 x1 v3 S2)))
noncomputable def fn_X9_serves_94 (k9 : Int32 → Int32 → HS → Option HS) (x1 : Int32) (x2 : Int32) (x3 : Int32) (y0 : Int32) (y1 : Int32) (S : HS) : Option HS := gd (vp_in y1 8) (bn (some (sI S 25 y1.toNatClampNeg y0)) (fun S2 => cd (x3 = 0) (gd (vp_in x2 8) (cd ((gI S2 25 x2.toNatClampNeg) ≤ x1) (gd (vp_in x2 8) (fn_X9_serves_135 k9 x1 x2 (gI S2 24 x2.toNatClampNeg) x2 S2)) (fn_X9_serves_135 k9 x1 x2 0 x2 S2))) (gd (vp_in x2 8) (fn_X9_serves_135 k9 x1 x2 ((gI S2 24 x2.toNatClampNeg) + 1) x2 S2))))
noncomputable def fn_X9_serves_66 (k9 : Int32 → Int32 → HS → Option HS) (k20 : Int32 → Int32 → Int32 → Int32 → HS → Option HS) (x1 : Int32) (x2 : Int32) (x4 : Int32) (y0 : Int32) (S : HS) : Option HS := bn (some (x4 + 1)) (fun v1 => k20 x1 x2 y0 v1 S)
noncomputable def fn_X9_serves_65 (k9 : Int32 → Int32 → HS → Option HS) (k20 : Int32 → Int32 → Int32 → Int32 → HS → Option HS) (x1 : Int32) (x2 : Int32) (x4 : Int32) (S : HS) : Option HS := fn_X9_serves_66 k9 k20 x1 x2 x4 0 S
noncomputable def fn_X9_serves_61 (k9 : Int32 → Int32 → HS → Option HS) (k20 : Int32 → Int32 → Int32 → Int32 → HS → Option HS) (x1 : Int32) (x2 : Int32) (x4 : Int32) (S : HS) : Option HS := fn_X9_serves_66 k9 k20 x1 x2 x4 1 S
noncomputable def fn_X9_serves_20 (k9 : Int32 → Int32 → HS → Option HS) : Nat → Int32 → Int32 → Int32 → Int32 → HS → Option HS
  | 0, _, _, _, _, _ => none
  | n + 1, x1, x2, x3, x4, S => cd ((gI S 0 28) ≤ x4) (cd (x3 = 0) (gd (vp_in x2 8) (fn_X9_serves_94 k9 x1 x2 x3 ((gI S 25 x2.toNatClampNeg) + 1) x2 S)) (fn_X9_serves_94 k9 x1 x2 x3 0 x2 S)) (cd (x3 = 0) (gd (vp_in x4 8) (cd ((gI S 14 x4.toNatClampNeg) = x2) (gd (vp_in ((9 * x4) + 6) 72) (cd ((gI S 23 ((9 * x4) + 6 : Int32).toNatClampNeg) = 1) (fn_X9_serves_61 k9 (fn_X9_serves_20 k9 n) x1 x2 x4 S) (fn_X9_serves_65 k9 (fn_X9_serves_20 k9 n) x1 x2 x4 S))) (fn_X9_serves_65 k9 (fn_X9_serves_20 k9 n) x1 x2 x4 S))) (fn_X9_serves_61 k9 (fn_X9_serves_20 k9 n) x1 x2 x4 S))
noncomputable def fn_X9_serves_9  : Nat → Int32 → Int32 → HS → Option HS
  | 0, _, _, _ => none
  | n + 1, x1, x2, S => cd (8 ≤ x2) (some S) (fn_X9_serves_20 (fn_X9_serves_9 n) hFuel x1 x2 0 0 S)
noncomputable def fn_X9_serves  (S : HS) : Option HS := bn2 (fn_X9_numberOf 4 0 S) (fun r2 S1 => fn_X9_serves_9 hFuel r2 0 S1)
/-! notesOf -/
noncomputable def fn_X9_notesOf_122 (k2 : Int32 → Int32 → Int32 → HS → Option HS) (x1 : Int32) (x2 : Int32) (x3 : Int32) (S : HS) : Option HS := bn (some (x3 + 1)) (fun v1 => k2 x1 x2 v1 S)
noncomputable def fn_X9_notesOf_99 (k2 : Int32 → Int32 → Int32 → HS → Option HS) (x1 : Int32) (x2 : Int32) (x3 : Int32) (y0 : Int32) (y1 : Int32) (S : HS) : Option HS := gd (vp_in y1 8) (gd (y0 = 0 ∨ y0 = 1) (bn (some (sI S 33 y1.toNatClampNeg y0)) (fun S3 => gd (vp_in x3 200) (gd (vp_in x3 200) (gd (vp_in (gI S3 15 x3.toNatClampNeg) 8) (gd (vp_in (gI S3 15 x3.toNatClampNeg) 8) (bn (some (sI S3 32 (gI S3 15 x3.toNatClampNeg : Int32).toNatClampNeg (gI S3 31 (gI S3 15 x3.toNatClampNeg : Int32).toNatClampNeg))) (fun S8 => fn_X9_notesOf_122 k2 x1 x2 x3 S8))))))))
noncomputable def fn_X9_notesOf_2  : Nat → Int32 → Int32 → Int32 → HS → Option HS
  | 0, _, _, _, _ => none
  | n + 1, x1, x2, x3, S => cd ((gI S 0 34) ≤ x3) (some S) (gd (vp_in x3 200) (cd ((gI S 17 x3.toNatClampNeg) = x1) (gd (vp_in x3 200) (cd ((gI S 18 x3.toNatClampNeg) ≤ x2) (gd (vp_in x3 200) (gd (vp_in x3 200) (gd (vp_in x3 200) (gd (vp_in ((9 * (gI S 15 x3.toNatClampNeg)) + (gI S 16 x3.toNatClampNeg)) 72) (bn (some (sI S 23 ((9 * (gI S 15 x3.toNatClampNeg)) + (gI S 16 x3.toNatClampNeg) : Int32).toNatClampNeg (gI S 19 x3.toNatClampNeg))) (fun S7 => gd (vp_in x3 200) (cd ((gI S7 16 x3.toNatClampNeg) = 8) (gd (vp_in x3 200) (gd (vp_in x3 200) (cd ((gI S7 19 x3.toNatClampNeg) = 1) (fn_X9_notesOf_99 (fn_X9_notesOf_2 n) x1 x2 x3 1 (gI S7 15 x3.toNatClampNeg) S7) (fn_X9_notesOf_99 (fn_X9_notesOf_2 n) x1 x2 x3 0 (gI S7 15 x3.toNatClampNeg) S7)))) (fn_X9_notesOf_122 (fn_X9_notesOf_2 n) x1 x2 x3 S7)))))))) (fn_X9_notesOf_122 (fn_X9_notesOf_2 n) x1 x2 x3 S))) (fn_X9_notesOf_122 (fn_X9_notesOf_2 n) x1 x2 x3 S)))
noncomputable def fn_X9_notesOf (x1 : Int32) (x2 : Int32) (S : HS) : Option HS := fn_X9_notesOf_2 hFuel x1 x2 0 S
/-! stands -/
noncomputable def fn_X9_stands_351 (k279 : Int32 → Int32 → HS → Option HS) (x1 : Int32) (x3 : Int32) (S : HS) : Option HS := bn (some (x3 + 1)) (fun v1 => k279 x1 v1 S)
noncomputable def fn_X9_stands_348 (k279 : Int32 → Int32 → HS → Option HS) (x1 : Int32) (x3 : Int32) (y0 : Int32) (y1 : Int32) (y2 : Int32) (y3 : Int32) (S : HS) : Option HS := gd (vp_in y3 8) (bn (some (sI S 30 y3.toNatClampNeg (y2 + (y1 * y0)))) (fun S2 => fn_X9_stands_351 k279 x1 x3 S2))
noncomputable def fn_X9_stands_279  : Nat → Int32 → Int32 → HS → Option HS
  | 0, _, _, _ => none
  | n + 1, x1, x3, S => cd (26 ≤ x3) (some S) (gd (vp_in (130 + x3) 156) (bn (some (gI S 20 (130 + x3 : Int32).toNatClampNeg)) (fun v2 => cd (v2 = (-1)) (fn_X9_stands_351 (fn_X9_stands_279 n) x1 x3 S) (bn2 (fn_X9_holds x1 v2 S) (fun r4 S3 => cd (r4 = 0) (fn_X9_stands_351 (fn_X9_stands_279 n) x1 x3 S3) (gd (vp_in x1 8) (gd (vp_in v2 481) (gd (vp_in v2 481) (cd ((gI S3 11 v2.toNatClampNeg) = 0) (fn_X9_stands_348 (fn_X9_stands_279 n) x1 x3 100 (gI S3 10 v2.toNatClampNeg) (gI S3 30 x1.toNatClampNeg) x1 S3) (gd (vp_in x1 8) (fn_X9_stands_348 (fn_X9_stands_279 n) x1 x3 (gI S3 29 x1.toNatClampNeg) (gI S3 10 v2.toNatClampNeg) (gI S3 30 x1.toNatClampNeg) x1 S3)))))))))))
noncomputable def fn_X9_stands_261  (x1 : Int32) (y0 : Int32) (y1 : Int32) (S : HS) : Option HS := gd (vp_in y1 8) (bn (some (sI S 29 y1.toNatClampNeg y0)) (fun S2 => gd (vp_in x1 8) (gd (vp_in x1 8) (bn (some (sI S2 30 x1.toNatClampNeg (100 * (gI S2 29 x1.toNatClampNeg)))) (fun S5 => fn_X9_stands_279 hFuel x1 0 S5)))))
noncomputable def fn_X9_stands_230  (x1 : Int32) (x2 : Int32) (y0 : Int32) (y1 : Int32) (S : HS) : Option HS := gd (vp_in y1 8) (bn (some (sI S 28 y1.toNatClampNeg y0)) (fun S2 => cd (x2 = (-1)) (fn_X9_stands_261 x1 0 x1 S2) (gd (vp_in x1 8) (gd (vp_in ((8 * x2) + (gI S2 28 x1.toNatClampNeg)) 3848) (fn_X9_stands_261 x1 (gI S2 12 ((8 * x2) + (gI S2 28 x1.toNatClampNeg) : Int32).toNatClampNeg) x1 S2)))))
noncomputable def fn_X9_stands_184  (x1 : Int32) (y0 : Int32) (S : HS) : Option HS := cd (y0 = (-1)) (fn_X9_stands_230 x1 y0 (-1) x1 S) (gd (vp_in x1 8) (gd (vp_in (gI S 14 x1.toNatClampNeg) 8) (bn2 (fn_X9_numberOf 3 360 S) (fun r4 S3 => gd (¬ r4 = 0) (gd (vp_in y0 481) (fn_X9_stands_230 x1 y0 (jmin ((gI S 24 (gI S 14 x1.toNatClampNeg : Int32).toNatClampNeg) / r4) ((gI S3 13 y0.toNatClampNeg) - 1)) x1 S3))))))
noncomputable def fn_X9_stands_150 (k66 : Int32 → Int32 → HS → Option HS) (x1 : Int32) (x2 : Int32) (S : HS) : Option HS := bn (some (x2 + 1)) (fun v1 => k66 x1 v1 S)
noncomputable def fn_X9_stands_143 (k66 : Int32 → Int32 → HS → Option HS) (x1 : Int32) (x2 : Int32) (S : HS) : Option HS := gd (vp_in x1 8) (bn (some (sI S 27 x1.toNatClampNeg x2)) (fun S2 => fn_X9_stands_150 k66 x1 x2 S2))
noncomputable def fn_X9_stands_66  : Nat → Int32 → Int32 → HS → Option HS
  | 0, _, _, _ => none
  | n + 1, x1, x2, S => cd (26 ≤ x2) (gd (vp_in x1 8) (cd ((gI S 27 x1.toNatClampNeg) = (-1)) (fn_X9_stands_184 x1 (-1) S) (gd (vp_in x1 8) (gd (vp_in (52 + (gI S 27 x1.toNatClampNeg)) 156) (fn_X9_stands_184 x1 (gI S 20 (52 + (gI S 27 x1.toNatClampNeg) : Int32).toNatClampNeg) S))))) (gd (vp_in (26 + x2) 156) (bn (some (gI S 20 (26 + x2 : Int32).toNatClampNeg)) (fun v5 => cd (v5 = (-1)) (fn_X9_stands_150 (fn_X9_stands_66 n) x1 x2 S) (gd (vp_in v5 481) (gd (vp_in x1 8) (cd ((gI S 10 v5.toNatClampNeg) ≤ (gI S 26 x1.toNatClampNeg)) (gd (vp_in x1 8) (cd ((gI S 27 x1.toNatClampNeg) = (-1)) (fn_X9_stands_143 (fn_X9_stands_66 n) x1 x2 S) (gd (vp_in v5 481) (gd (vp_in x1 8) (gd (vp_in (26 + (gI S 27 x1.toNatClampNeg)) 156) (gd (vp_in (gI S 20 (26 + (gI S 27 x1.toNatClampNeg) : Int32).toNatClampNeg) 481) (cd ((gI S 10 v5.toNatClampNeg) ≤ (gI S 10 (gI S 20 (26 + (gI S 27 x1.toNatClampNeg) : Int32).toNatClampNeg : Int32).toNatClampNeg)) (fn_X9_stands_150 (fn_X9_stands_66 n) x1 x2 S) (fn_X9_stands_143 (fn_X9_stands_66 n) x1 x2 S)))))))) (fn_X9_stands_150 (fn_X9_stands_66 n) x1 x2 S)))))))
noncomputable def fn_X9_stands_58 (k16 : Int32 → Int32 → HS → Option HS) (x1 : Int32) (x2 : Int32) (S : HS) : Option HS := bn (some (x2 + 1)) (fun v1 => k16 x1 v1 S)
noncomputable def fn_X9_stands_16  : Nat → Int32 → Int32 → HS → Option HS
  | 0, _, _, _ => none
  | n + 1, x1, x2, S => cd (26 ≤ x2) (fn_X9_stands_66 hFuel x1 0 S) (gd (vp_in x2 156) (bn (some (gI S 20 x2.toNatClampNeg)) (fun v2 => cd (v2 = (-1)) (fn_X9_stands_58 (fn_X9_stands_16 n) x1 x2 S) (bn2 (fn_X9_holds x1 v2 S) (fun r4 S3 => cd (r4 = 0) (fn_X9_stands_58 (fn_X9_stands_16 n) x1 x2 S3) (gd (vp_in x1 8) (gd (vp_in v2 481) (gd (vp_in x1 8) (bn (some (sI S3 26 x1.toNatClampNeg ((gI S3 26 x1.toNatClampNeg) + (gI S3 10 v2.toNatClampNeg)))) (fun S8 => fn_X9_stands_58 (fn_X9_stands_16 n) x1 x2 S8))))))))))
noncomputable def fn_X9_stands (x1 : Int32) (S : HS) : Option HS := gd (vp_in x1 8) (bn (some (sI S 26 x1.toNatClampNeg 0)) (fun S2 => gd (vp_in x1 8) (bn (some (sI S2 27 x1.toNatClampNeg (-1))) (fun S4 => fn_X9_stands_16 hFuel x1 0 S4))))
/-! gives -/
noncomputable def fn_X9_gives_83  (y0 : Int32) (y1 : Int32) (S : HS) : Option HS := gd (vp_in y1 8) (bn (some (sI S 31 y1.toNatClampNeg y0)) (fun S2 => some S2))
noncomputable def fn_X9_gives_54  (x1 : Int32) (S : HS) : Option HS := gd (vp_in x1 8) (cd ((gI S 33 x1.toNatClampNeg) = 0) (gd (vp_in x1 8) (fn_X9_gives_83 (gI S 30 x1.toNatClampNeg) x1 S)) (gd (vp_in x1 8) (fn_X9_gives_83 (gI S 32 x1.toNatClampNeg) x1 S)))
noncomputable def fn_X9_gives (x1 : Int32) (S : HS) : Option HS := gd (vp_in ((9 * x1) + 6) 72) (cd ((gI S 23 ((9 * x1) + 6 : Int32).toNatClampNeg) = 0) (gd (vp_in x1 8) (bn (some (sI S 31 x1.toNatClampNeg 0)) (fun S8 => some S8))) (gd (vp_in x1 8) (cd ((gI S 33 x1.toNatClampNeg) = 0) (fn_X9_gives_54 x1 S) (gd (vp_in x1 8) (gd (vp_in x1 8) (cd ((gI S 30 x1.toNatClampNeg) < (gI S 32 x1.toNatClampNeg)) (fn_X9_gives_54 x1 S) (gd (vp_in x1 8) (bn (some (sI S 33 x1.toNatClampNeg 0)) (fun S6 => fn_X9_gives_54 x1 S6)))))))))
/-! passes -/
noncomputable def fn_X9_passes_150 (k114 : Int32 → Int32 → Int32 → HS → Option HS) : Nat → Int32 → Int32 → Int32 → Int32 → HS → Option HS
  | 0, _, _, _, _, _ => none
  | n + 1, x1, x2, x3, x4, S => cd ((gI S 0 28) ≤ x4) (bn (some (x3 + 1)) (fun v1 => k114 x1 x2 v1 S)) (bn (fn_X9_stands x4 S) (fun S2 => bn (fn_X9_gives x4 S2) (fun S3 => gd (vp_in ((9 * x4) + 7) 72) (bn (some (gI S3 23 ((9 * x4) + 7 : Int32).toNatClampNeg)) (fun v5 => gd (vp_in ((40 * x4) + (x3 / 30)) 320) (gd (vp_in x4 8) (gd (¬ ((v5 - v5 / 10 * 10 : Int32).toInt64) = 0) (gd (vp_in ((40 * x4) + (x3 / 30)) 320) (bn (some (sJ S3 34 ((40 * x4) + (x3 / 30) : Int32).toNatClampNeg ((gJ S3 34 ((40 * x4) + (x3 / 30) : Int32).toNatClampNeg) + (((840 * ((gI S3 31 x4.toNatClampNeg : Int32).toInt64)) * ((v5 / 10 : Int32).toInt64)) / ((v5 - v5 / 10 * 10 : Int32).toInt64))))) (fun S9 => bn (some (x4 + 1)) (fun v10 => (fn_X9_passes_150 k114 n) x1 x2 x3 v10 S9)))))))))))
noncomputable def fn_X9_passes_141 (k114 : Int32 → Int32 → Int32 → HS → Option HS) (x1 : Int32) (x2 : Int32) (x3 : Int32) (S : HS) : Option HS := bn (fn_X9_notesOf x3 x1 S) (fun S1 => fn_X9_passes_150 k114 hFuel x1 x2 x3 0 S1)
noncomputable def fn_X9_passes_127 (k114 : Int32 → Int32 → Int32 → HS → Option HS) (x1 : Int32) (x2 : Int32) (x3 : Int32) (S : HS) : Option HS := bn2 (fn_X9_isBeginning x3 S) (fun r2 S1 => cd (r2 = 0) (fn_X9_passes_141 k114 x1 x2 x3 S1) (bn (fn_X9_lawsOf x3 x1 S1) (fun S3 => fn_X9_passes_141 k114 x1 x2 x3 S3)))
noncomputable def fn_X9_passes_114  : Nat → Int32 → Int32 → Int32 → HS → Option HS
  | 0, _, _, _, _ => none
  | n + 1, x1, x2, x3, S => cd (x2 < x3) (some S) (cd (x3 ≤ 0) (fn_X9_passes_127 (fn_X9_passes_114 n) x1 x2 x3 S) (bn (fn_X9_serves S) (fun S1 => fn_X9_passes_127 (fn_X9_passes_114 n) x1 x2 x3 S1)))
noncomputable def fn_X9_passes_92  : Nat → Int32 → Int32 → Int32 → HS → Option HS
  | 0, _, _, _, _ => none
  | n + 1, x1, x2, x3, S => cd (320 ≤ x3) (fn_X9_passes_114 hFuel x1 x2 0 S) (gd (vp_in x3 320) (bn (some (sJ S 34 x3.toNatClampNeg 0)) (fun S2 => bn (some (x3 + 1)) (fun v3 => (fn_X9_passes_92 n) x1 x2 v3 S2))))
noncomputable def fn_X9_passes_42 (k2 : Int32 → Int32 → Int32 → HS → Option HS) (k11 : Int32 → Int32 → Int32 → Int32 → HS → Option HS) (x1 : Int32) (x2 : Int32) (x3 : Int32) (x4 : Int32) (y0 : Int32) (y1 : Int32) (S : HS) : Option HS := gd (vp_in y1 72) (bn (some (sI S 23 y1.toNatClampNeg y0)) (fun S2 => bn (some (x4 + 1)) (fun v3 => k11 x1 x2 x3 v3 S2)))
noncomputable def fn_X9_passes_11 (k2 : Int32 → Int32 → Int32 → HS → Option HS) : Nat → Int32 → Int32 → Int32 → Int32 → HS → Option HS
  | 0, _, _, _, _, _ => none
  | n + 1, x1, x2, x3, x4, S => cd (9 ≤ x4) (gd (vp_in x3 8) (bn (some (sI S 24 x3.toNatClampNeg 0)) (fun S2 => gd (vp_in x3 8) (bn (some (sI S2 25 x3.toNatClampNeg 0)) (fun S4 => gd (vp_in x3 8) (bn (some (sI S4 31 x3.toNatClampNeg 0)) (fun S6 => gd (vp_in x3 8) (bn (some (sI S6 32 x3.toNatClampNeg 0)) (fun S8 => gd (vp_in x3 8) (bn (some (sI S8 33 x3.toNatClampNeg 0)) (fun S10 => bn (some (x3 + 1)) (fun v11 => k2 x1 x2 v11 S10)))))))))))) (cd (x4 = 7) (fn_X9_passes_42 k2 (fn_X9_passes_11 k2 n) x1 x2 x3 x4 11 ((9 * x3) + x4) S) (fn_X9_passes_42 k2 (fn_X9_passes_11 k2 n) x1 x2 x3 x4 0 ((9 * x3) + x4) S))
noncomputable def fn_X9_passes_2  : Nat → Int32 → Int32 → Int32 → HS → Option HS
  | 0, _, _, _, _ => none
  | n + 1, x1, x2, x3, S => cd (8 ≤ x3) (fn_X9_passes_92 hFuel x1 x2 0 S) (fn_X9_passes_11 (fn_X9_passes_2 n) hFuel x1 x2 x3 0 S)
noncomputable def fn_X9_passes (x1 : Int32) (x2 : Int32) (S : HS) : Option HS := fn_X9_passes_2 hFuel x1 x2 0 S
/-! isDay -/
noncomputable def fn_X9_isDay_16  (y0 : Int32) (S : HS) : Option (Int32 × HS) := gd (y0 = 0 ∨ y0 = 1) (some (y0, S))
noncomputable def fn_X9_isDay_15   (S : HS) : Option (Int32 × HS) := fn_X9_isDay_16 0 S
noncomputable def fn_X9_isDay (x1 : Int32) (S : HS) : Option (Int32 × HS) := cd (x1 < 0) (fn_X9_isDay_15 S) (cd (1200 ≤ x1) (fn_X9_isDay_15 S) (fn_X9_isDay_16 1 S))
/-! isKnown -/
noncomputable def fn_X9_isKnown_17  (y0 : Int32) (S : HS) : Option (Int32 × HS) := gd (y0 = 0 ∨ y0 = 1) (some (y0, S))
noncomputable def fn_X9_isKnown_16   (S : HS) : Option (Int32 × HS) := fn_X9_isKnown_17 0 S
noncomputable def fn_X9_isKnown (x1 : Int32) (S : HS) : Option (Int32 × HS) := cd (x1 < 0) (fn_X9_isKnown_16 S) (cd ((gI S 0 3) < x1) (fn_X9_isKnown_16 S) (fn_X9_isKnown_17 1 S))
/-! isPost -/
noncomputable def fn_X9_isPost_17  (y0 : Int32) (S : HS) : Option (Int32 × HS) := gd (y0 = 0 ∨ y0 = 1) (some (y0, S))
noncomputable def fn_X9_isPost_16   (S : HS) : Option (Int32 × HS) := fn_X9_isPost_17 0 S
noncomputable def fn_X9_isPost (x1 : Int32) (S : HS) : Option (Int32 × HS) := cd (x1 < 0) (fn_X9_isPost_16 S) (cd ((gI S 0 28) ≤ x1) (fn_X9_isPost_16 S) (fn_X9_isPost_17 1 S))
/-! look -/
noncomputable def fn_X9_look_41   (S : HS) : Option (Int32 × HS) := some ((-2147483648), S)
noncomputable def fn_X9_look (x1 : Int32) (x2 : Int32) (x3 : Int32) (x4 : Int32) (S : HS) : Option (Int32 × HS) := bn (some (sI S 0 0 0)) (fun S1 => bn2 (fn_X9_isPost x1 S1) (fun r3 S2 => cd (r3 = 0) (fn_X9_look_41 S2) (bn2 (fn_X9_isDay x2 S2) (fun r5 S4 => cd (r5 = 0) (fn_X9_look_41 S4) (bn2 (fn_X9_isKnown x3 S4) (fun r7 S6 => cd (r7 = 0) (fn_X9_look_41 S6) (cd (x4 < 0) (fn_X9_look_41 S6) (cd (x4 ≤ 15) (bn (fn_X9_passes x3 x2 S6) (fun S8 => cd (9 ≤ x4) (cd (x4 = 9) (gd (vp_in x1 8) (some (gI S8 26 x1.toNatClampNeg, S8))) (cd (x4 = 10) (gd (vp_in x1 8) (some (gI S8 27 x1.toNatClampNeg, S8))) (cd (x4 = 11) (gd (vp_in x1 8) (gd (vp_in (gI S8 14 x1.toNatClampNeg) 8) (some (gI S8 24 (gI S8 14 x1.toNatClampNeg : Int32).toNatClampNeg, S8)))) (cd (x4 = 12) (gd (vp_in x1 8) (some (gI S8 28 x1.toNatClampNeg, S8))) (cd (x4 = 13) (gd (vp_in x1 8) (some (gI S8 29 x1.toNatClampNeg, S8))) (cd (x4 = 14) (gd (vp_in x1 8) (some (gI S8 30 x1.toNatClampNeg, S8))) (gd (vp_in x1 8) (some (gI S8 31 x1.toNatClampNeg, S8))))))))) (gd (vp_in ((9 * x1) + x4) 72) (some (gI S8 23 ((9 * x1) + x4 : Int32).toNatClampNeg, S8))))) (fn_X9_look_41 S6)))))))))
/-! pay -/
noncomputable def fn_X9_pay_29   (S : HS) : Option (Int64 × HS) := some ((-1), S)
noncomputable def fn_X9_pay (x1 : Int32) (x2 : Int32) (x3 : Int32) (S : HS) : Option (Int64 × HS) := bn (some (sI S 0 0 0)) (fun S1 => bn2 (fn_X9_isPost x1 S1) (fun r3 S2 => cd (r3 = 0) (fn_X9_pay_29 S2) (bn2 (fn_X9_isDay x2 S2) (fun r5 S4 => cd (r5 = 0) (fn_X9_pay_29 S4) (bn2 (fn_X9_isKnown x3 S4) (fun r7 S6 => cd (r7 = 0) (fn_X9_pay_29 S6) (bn (fn_X9_passes x3 x2 S6) (fun S8 => gd (vp_in ((9 * x1) + 7) 72) (bn (some (gI S8 23 ((9 * x1) + 7 : Int32).toNatClampNeg)) (fun v10 => gd (vp_in x1 8) (gd (¬ ((v10 - v10 / 10 * 10 : Int32).toInt64) = 0) (some (((840 * ((gI S8 31 x1.toNatClampNeg : Int32).toInt64)) * ((v10 / 10 : Int32).toInt64)) / ((v10 - v10 / 10 * 10 : Int32).toInt64), S8)))))))))))))
/-! due -/
noncomputable def fn_X9_due_31   (S : HS) : Option (Int64 × HS) := some ((-1), S)
noncomputable def fn_X9_due (x1 : Int32) (x2 : Int32) (x3 : Int32) (S : HS) : Option (Int64 × HS) := bn (some (sI S 0 0 0)) (fun S1 => bn2 (fn_X9_isPost x1 S1) (fun r3 S2 => cd (r3 = 0) (fn_X9_due_31 S2) (cd (x2 < 0) (fn_X9_due_31 S2) (cd (39 < x2) (fn_X9_due_31 S2) (bn2 (fn_X9_isKnown x3 S2) (fun r5 S4 => cd (r5 = 0) (fn_X9_due_31 S4) (bn (fn_X9_passes x3 ((30 * x2) + 29) S4) (fun S6 => gd (vp_in ((40 * x1) + x2) 320) (some (gJ S6 34 ((40 * x1) + x2 : Int32).toNatClampNeg, S6))))))))))
/-! run -/
noncomputable def fn_X9_run_145 (k36 : Int32 → HS → Option (Int32 × HS)) (k46 : Int32 → Int32 → HS → Option (Int32 × HS)) (x1 : Int32) (x2 : Int32) (S : HS) : Option (Int32 × HS) := bn (some (x2 + 1)) (fun v1 => k46 x1 v1 S)
noncomputable def fn_X9_run_46 (k36 : Int32 → HS → Option (Int32 × HS)) : Nat → Int32 → Int32 → HS → Option (Int32 × HS)
  | 0, _, _, _ => none
  | n + 1, x1, x2, S => cd (((gI S 0 3) / 30) ≤ x2) (bn (some (x1 + 1)) (fun v1 => k36 v1 S)) (gd (vp_in ((40 * x1) + x2) 320) (gd (vp_in ((40 * x1) + x2) 320) (bn (some ((gJ S 34 ((40 * x1) + x2 : Int32).toNatClampNeg) - (gJ S 35 ((40 * x1) + x2 : Int32).toNatClampNeg))) (fun v4 => cd ((lg_cmp v4 0) = 0) (fn_X9_run_145 k36 (fn_X9_run_46 k36 n) x1 x2 S) (gd (vp_in ((40 * x1) + x2) 320) (gd (vp_in ((40 * x1) + x2) 320) (bn (some (sJ S 35 ((40 * x1) + x2 : Int32).toNatClampNeg ((gJ S 35 ((40 * x1) + x2 : Int32).toNatClampNeg) + v4))) (fun S7 => gd (vp_in (gI S7 0 54) 320) (bn (some (sI S7 36 (gI S7 0 54 : Int32).toNatClampNeg x1)) (fun S9 => gd (vp_in (gI S9 0 54) 320) (bn (some (sI S9 37 (gI S9 0 54 : Int32).toNatClampNeg x2)) (fun S11 => gd (vp_in (gI S11 0 54) 320) (bn (some (sJ S11 38 (gI S11 0 54 : Int32).toNatClampNeg v4)) (fun S13 => bn (some (sI S13 0 54 ((gI S13 0 54) + 1))) (fun S14 => fn_X9_run_145 k36 (fn_X9_run_46 k36 n) x1 x2 S14)))))))))))))))
noncomputable def fn_X9_run_36  : Nat → Int32 → HS → Option (Int32 × HS)
  | 0, _, _ => none
  | n + 1, x1, S => cd ((gI S 0 28) ≤ x1) (some (gI S 0 54, S)) (fn_X9_run_46 (fn_X9_run_36 n) hFuel x1 0 S)
noncomputable def fn_X9_run  (S : HS) : Option (Int32 × HS) := bn (some (sI S 0 0 0)) (fun S1 => bn (some (sI S1 0 55 ((gI S1 0 55) + 1))) (fun S2 => bn (some (sI S2 0 54 0)) (fun S3 => bn (fn_X9_passes (gI S3 0 3) ((gI S3 0 3) - 1) S3) (fun S4 => fn_X9_run_36 hFuel 0 S4))))
/-! payment -/
noncomputable def fn_X9_payment_67  (y0 : Int64) (S : HS) : Option (Int64 × HS) := some (y0, S)
noncomputable def fn_X9_payment_17   (S : HS) : Option (Int64 × HS) := some ((-1), S)
noncomputable def fn_X9_payment (x1 : Int32) (x2 : Int32) (S : HS) : Option (Int64 × HS) := bn (some (sI S 0 0 0)) (fun S1 => cd (x1 < 0) (fn_X9_payment_17 S1) (cd (x1 < (gI S1 0 54)) (cd (x2 = 0) (gd (vp_in x1 320) (fn_X9_payment_67 ((gI S1 36 x1.toNatClampNeg : Int32).toInt64) S1)) (cd (x2 = 1) (gd (vp_in x1 320) (fn_X9_payment_67 ((gI S1 37 x1.toNatClampNeg : Int32).toInt64) S1)) (cd (x2 = 2) (gd (vp_in x1 320) (fn_X9_payment_67 (gJ S1 38 x1.toNatClampNeg) S1)) (fn_X9_payment_67 (-1) S1)))) (fn_X9_payment_17 S1)))
/-! paid -/
noncomputable def fn_X9_paid_40  (y0 : Int64) (S : HS) : Option (Int64 × HS) := some (y0, S)
noncomputable def fn_X9_paid_37   (S : HS) : Option (Int64 × HS) := fn_X9_paid_40 (-1) S
noncomputable def fn_X9_paid (x1 : Int32) (x2 : Int32) (S : HS) : Option (Int64 × HS) := bn (some (sI S 0 0 0)) (fun S1 => bn2 (fn_X9_isPost x1 S1) (fun r3 S2 => cd (r3 = 0) (fn_X9_paid_37 S2) (cd (x2 < 0) (fn_X9_paid_37 S2) (cd (39 < x2) (fn_X9_paid_37 S2) (gd (vp_in ((40 * x1) + x2) 320) (fn_X9_paid_40 (gJ S2 35 ((40 * x1) + x2 : Int32).toNatClampNeg) S2))))))
/-! cost -/
noncomputable def fn_X9_cost_62 (k50 : Int32 → Int32 → Int64 → Int32 → HS → Option (Int64 × HS)) : Nat → Int32 → Int32 → Int64 → Int32 → Int32 → HS → Option (Int64 × HS)
  | 0, _, _, _, _, _, _ => none
  | n + 1, x1, x2, x4, x6, x7, S => cd (x2 < x7) (bn (some (x6 + 1)) (fun v1 => k50 x1 x2 x4 v1 S)) (gd (vp_in ((40 * x6) + x7) 320) (bn (some (x4 + (gJ S 34 ((40 * x6) + x7 : Int32).toNatClampNeg))) (fun v3 => bn (some (x7 + 1)) (fun v4 => (fn_X9_cost_62 k50 n) x1 x2 v3 x6 v4 S))))
noncomputable def fn_X9_cost_50  : Nat → Int32 → Int32 → Int64 → Int32 → HS → Option (Int64 × HS)
  | 0, _, _, _, _, _ => none
  | n + 1, x1, x2, x4, x6, S => cd ((gI S 0 28) ≤ x6) (some (x4, S)) (fn_X9_cost_62 (fn_X9_cost_50 n) hFuel x1 x2 x4 x6 x1 S)
noncomputable def fn_X9_cost_28   (S : HS) : Option (Int64 × HS) := some ((-1), S)
noncomputable def fn_X9_cost (x1 : Int32) (x2 : Int32) (x3 : Int32) (S : HS) : Option (Int64 × HS) := bn (some (sI S 0 0 0)) (fun S1 => cd (x1 < 0) (fn_X9_cost_28 S1) (cd (39 < x2) (fn_X9_cost_28 S1) (cd (x2 < x1) (fn_X9_cost_28 S1) (bn2 (fn_X9_isKnown x3 S1) (fun r3 S2 => cd (r3 = 0) (fn_X9_cost_28 S2) (bn (fn_X9_passes x3 ((30 * x2) + 29) S2) (fun S4 => fn_X9_cost_50 hFuel x1 x2 0 0 S4)))))))
/-! common -/
noncomputable def fn_X9_common_4  : Nat → Int32 → Int32 → HS → Option (Int32 × HS)
  | 0, _, _, _ => none
  | n + 1, x2, x3, S => cd (x3 ≤ 0) (some (x2, S)) (gd (¬ x3 = 0) (bn (some (x2 - x2 / x3 * x3)) (fun v1 => (fn_X9_common_4 n) x3 v1 S)))
noncomputable def fn_X9_common (x0 : Int32) (x1 : Int32) (S : HS) : Option (Int32 × HS) := fn_X9_common_4 hFuel x0 x1 S
/-! like -/
noncomputable def fn_X9_like_263 (k48 : Int32 → Int32 → HS → Option (Int32 × HS)) (k63 : Int32 → Int32 → Int32 → HS → Option (Int32 × HS)) (x3 : Int32) (x4 : Int32) (x5 : Int32) (S : HS) : Option (Int32 × HS) := bn (some (x5 + 1)) (fun v1 => k63 x3 x4 v1 S)
noncomputable def fn_X9_like_111 (k48 : Int32 → Int32 → HS → Option (Int32 × HS)) (k63 : Int32 → Int32 → Int32 → HS → Option (Int32 × HS)) (x3 : Int32) (x4 : Int32) (x5 : Int32) (y0 : Int32) (S : HS) : Option (Int32 × HS) := cd (y0 = 0) (fn_X9_like_263 k48 k63 x3 x4 x5 S) (gd (vp_in x4 8) (gd (vp_in x5 8) (cd (x3 < (jabs ((gI S 26 x4.toNatClampNeg) - (gI S 26 x5.toNatClampNeg)))) (fn_X9_like_263 k48 k63 x3 x4 x5 S) (gd (vp_in x4 8) (gd (vp_in x5 8) (cd ((gI S 30 x4.toNatClampNeg) = (gI S 30 x5.toNatClampNeg)) (fn_X9_like_263 k48 k63 x3 x4 x5 S) (gd (vp_in x4 8) (gd (vp_in x5 8) (bn2 (fn_X9_common (gI S 30 x4.toNatClampNeg) (gI S 30 x5.toNatClampNeg) S) (fun r8 S7 => gd (vp_in (4 * (gI S7 0 57)) 112) (bn (some (sI S7 39 (4 * (gI S7 0 57) : Int32).toNatClampNeg x4)) (fun S10 => gd (vp_in ((4 * (gI S10 0 57)) + 1) 112) (bn (some (sI S10 39 ((4 * (gI S10 0 57)) + 1 : Int32).toNatClampNeg x5)) (fun S12 => gd (vp_in x4 8) (gd (¬ r8 = 0) (gd (vp_in ((4 * (gI S12 0 57)) + 2) 112) (bn (some (sI S12 39 ((4 * (gI S12 0 57)) + 2 : Int32).toNatClampNeg ((gI S12 30 x4.toNatClampNeg) / r8))) (fun S15 => gd (vp_in x5 8) (gd (¬ r8 = 0) (gd (vp_in ((4 * (gI S15 0 57)) + 3) 112) (bn (some (sI S15 39 ((4 * (gI S15 0 57)) + 3 : Int32).toNatClampNeg ((gI S15 30 x5.toNatClampNeg) / r8))) (fun S18 => bn (some (sI S18 0 57 ((gI S18 0 57) + 1))) (fun S19 => fn_X9_like_263 k48 k63 x3 x4 x5 S19)))))))))))))))))))))))
noncomputable def fn_X9_like_110 (k48 : Int32 → Int32 → HS → Option (Int32 × HS)) (k63 : Int32 → Int32 → Int32 → HS → Option (Int32 × HS)) (x3 : Int32) (x4 : Int32) (x5 : Int32) (S : HS) : Option (Int32 × HS) := fn_X9_like_111 k48 k63 x3 x4 x5 0 S
noncomputable def fn_X9_like_63 (k48 : Int32 → Int32 → HS → Option (Int32 × HS)) : Nat → Int32 → Int32 → Int32 → HS → Option (Int32 × HS)
  | 0, _, _, _, _ => none
  | n + 1, x3, x4, x5, S => cd ((gI S 0 28) ≤ x5) (bn (some (x4 + 1)) (fun v1 => k48 x3 v1 S)) (gd (vp_in ((9 * x4) + 6) 72) (cd ((gI S 23 ((9 * x4) + 6 : Int32).toNatClampNeg) = 1) (gd (vp_in ((9 * x5) + 6) 72) (cd ((gI S 23 ((9 * x5) + 6 : Int32).toNatClampNeg) = 1) (fn_X9_like_111 k48 (fn_X9_like_63 k48 n) x3 x4 x5 1 S) (fn_X9_like_110 k48 (fn_X9_like_63 k48 n) x3 x4 x5 S))) (fn_X9_like_110 k48 (fn_X9_like_63 k48 n) x3 x4 x5 S)))
noncomputable def fn_X9_like_48  : Nat → Int32 → Int32 → HS → Option (Int32 × HS)
  | 0, _, _, _ => none
  | n + 1, x3, x4, S => cd ((gI S 0 28) ≤ x4) (some (gI S 0 57, S)) (bn (some (x4 + 1)) (fun v1 => fn_X9_like_63 (fn_X9_like_48 n) hFuel x3 x4 v1 S))
noncomputable def fn_X9_like_32   (S : HS) : Option (Int32 × HS) := some ((-1), S)
noncomputable def fn_X9_like (x1 : Int32) (x2 : Int32) (x3 : Int32) (S : HS) : Option (Int32 × HS) := bn (some (sI S 0 0 0)) (fun S1 => bn2 (fn_X9_isDay x1 S1) (fun r3 S2 => cd (r3 = 0) (fn_X9_like_32 S2) (bn2 (fn_X9_isKnown x2 S2) (fun r5 S4 => cd (r5 = 0) (fn_X9_like_32 S4) (cd (x3 < 0) (fn_X9_like_32 S4) (cd (x3 ≤ 99999) (bn (fn_X9_passes x2 x1 S4) (fun S6 => bn (some (sI S6 0 57 0)) (fun S7 => fn_X9_like_48 hFuel x3 0 S7))) (fn_X9_like_32 S4)))))))
/-! pair -/
noncomputable def fn_X9_pair_40  (y0 : Int32) (S : HS) : Option (Int32 × HS) := some (y0, S)
noncomputable def fn_X9_pair_26   (S : HS) : Option (Int32 × HS) := fn_X9_pair_40 (-1) S
noncomputable def fn_X9_pair (x1 : Int32) (x2 : Int32) (S : HS) : Option (Int32 × HS) := bn (some (sI S 0 0 0)) (fun S1 => cd (x1 < 0) (fn_X9_pair_26 S1) (cd ((gI S1 0 57) ≤ x1) (fn_X9_pair_26 S1) (cd (x2 < 0) (fn_X9_pair_26 S1) (cd (x2 ≤ 3) (gd (vp_in ((4 * x1) + x2) 112) (fn_X9_pair_40 (gI S1 39 ((4 * x1) + x2 : Int32).toNatClampNeg) S1)) (fn_X9_pair_26 S1)))))
/-! meet -/
noncomputable def fn_X9_meet_136 (k36 : Int32 → HS → Option (Int32 × HS)) (x3 : Int32) (S : HS) : Option (Int32 × HS) := bn (some (x3 + 1)) (fun v1 => k36 v1 S)
noncomputable def fn_X9_meet_36  : Nat → Int32 → HS → Option (Int32 × HS)
  | 0, _, _ => none
  | n + 1, x3, S => cd (156 ≤ x3) (some (gI S 0 59, S)) (gd (vp_in x3 156) (cd (2 ≤ (gI S 22 x3.toNatClampNeg)) (gd (vp_in (4 * (gI S 0 59)) 624) (bn (some (sI S 40 (4 * (gI S 0 59) : Int32).toNatClampNeg (x3 / 26))) (fun S3 => gd (vp_in ((4 * (gI S3 0 59)) + 1) 624) (bn (some (sI S3 40 ((4 * (gI S3 0 59)) + 1 : Int32).toNatClampNeg (x3 - x3 / 26 * 26))) (fun S5 => gd (vp_in x3 156) (gd (vp_in ((4 * (gI S5 0 59)) + 2) 624) (bn (some (sI S5 40 ((4 * (gI S5 0 59)) + 2 : Int32).toNatClampNeg (gI S5 21 x3.toNatClampNeg))) (fun S8 => gd (vp_in x3 156) (gd (vp_in ((4 * (gI S8 0 59)) + 3) 624) (bn (some (sI S8 40 ((4 * (gI S8 0 59)) + 3 : Int32).toNatClampNeg (gI S8 22 x3.toNatClampNeg))) (fun S11 => bn (some (sI S11 0 59 ((gI S11 0 59) + 1))) (fun S12 => fn_X9_meet_136 (fn_X9_meet_36 n) x3 S12)))))))))))) (fn_X9_meet_136 (fn_X9_meet_36 n) x3 S)))
noncomputable def fn_X9_meet_21   (S : HS) : Option (Int32 × HS) := some ((-1), S)
noncomputable def fn_X9_meet (x1 : Int32) (x2 : Int32) (S : HS) : Option (Int32 × HS) := bn (some (sI S 0 0 0)) (fun S1 => bn2 (fn_X9_isDay x1 S1) (fun r3 S2 => cd (r3 = 0) (fn_X9_meet_21 S2) (bn2 (fn_X9_isKnown x2 S2) (fun r5 S4 => cd (r5 = 0) (fn_X9_meet_21 S4) (bn (fn_X9_lawsOf x1 x2 S4) (fun S6 => bn (some (sI S6 0 59 0)) (fun S7 => fn_X9_meet_36 hFuel 0 S7)))))))
/-! met -/
noncomputable def fn_X9_met_40  (y0 : Int32) (S : HS) : Option (Int32 × HS) := some (y0, S)
noncomputable def fn_X9_met_26   (S : HS) : Option (Int32 × HS) := fn_X9_met_40 (-1) S
noncomputable def fn_X9_met (x1 : Int32) (x2 : Int32) (S : HS) : Option (Int32 × HS) := bn (some (sI S 0 0 0)) (fun S1 => cd (x1 < 0) (fn_X9_met_26 S1) (cd ((gI S1 0 59) ≤ x1) (fn_X9_met_26 S1) (cd (x2 < 0) (fn_X9_met_26 S1) (cd (x2 ≤ 3) (gd (vp_in ((4 * x1) + x2) 624) (fn_X9_met_40 (gI S1 40 ((4 * x1) + x2 : Int32).toNatClampNeg) S1)) (fn_X9_met_26 S1)))))
/-! count -/
noncomputable def fn_X9_count (x1 : Int32) (S : HS) : Option (Int32 × HS) := bn (some (sI S 0 0 0)) (fun S1 => cd (x1 = 0) (some (gI S1 0 3, S1)) (cd (x1 = 1) (some (gI S1 0 7, S1)) (cd (x1 = 2) (some (gI S1 0 28, S1)) (cd (x1 = 3) (some (gI S1 0 34, S1)) (cd (x1 = 4) (gd (vp_in (gI S1 0 7) 13) (some (gI S1 4 (gI S1 0 7 : Int32).toNatClampNeg, S1))) (cd (x1 = 5) (some (gI S1 0 54, S1)) (cd (x1 = 6) (some (gI S1 0 55, S1)) (some ((-1), S1)))))))))
