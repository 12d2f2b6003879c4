/-! arithmetic for what follows -/
theorem n_lit (n : Nat) : (OfNat.ofNat n : Int32) = nI (@OfNat.ofNat Nat n (instOfNatNat n)) := rfl
theorem n_cl {n : Nat} (h : n < 2147483648) : (nI n).toNatClampNeg = n := Int32.toNatClampNeg_ofNat_of_lt h
theorem n_int {n : Nat} (h : n < 2147483648) : (nI n).toInt = (n : Int) := nI_toInt h
theorem n_lt {a b : Nat} (ha : a < 2147483648) (hb : b < 2147483648) : (nI a < nI b) ↔ a < b := by
  rw [Int32.lt_iff_toInt_lt, n_int ha, n_int hb]; omega
theorem n_le {a b : Nat} (ha : a < 2147483648) (hb : b < 2147483648) : (nI a ≤ nI b) ↔ a ≤ b := by
  rw [Int32.le_iff_toInt_le, n_int ha, n_int hb]; omega
theorem n_eq {a b : Nat} (ha : a < 2147483648) (hb : b < 2147483648) : (nI a = nI b) ↔ a = b := by
  constructor
  · intro h
    have := congrArg Int32.toNatClampNeg h
    rw [n_cl ha, n_cl hb] at this; exact this
  · rintro rfl; rfl
theorem n_in {a N : Nat} (ha : a < 2147483648) : vp_in (nI a) N ↔ a < N := by
  unfold vp_in
  rw [n_cl ha, show ((0 : Int32) = nI 0) from rfl, n_lt ha (by omega)]
  omega
theorem n_mul (a b : Nat) : nI a * nI b = nI (a * b) := (Int32.ofNat_mul a b).symm
theorem n_add (a b : Nat) : nI a + nI b = nI (a + b) := nI_add a b
theorem n_sub {a b : Nat} (h : b ≤ a) : nI a - nI b = nI (a - b) := by
  have : nI a = nI (a - b) + nI b := by rw [n_add]; congr 1; omega
  rw [this, Int32.add_sub_cancel]
theorem n_neg1 {a : Nat} (ha : a < 2147483648) : nI a ≠ -1 := by
  intro h
  have := congrArg Int32.toInt h
  rw [n_int ha] at this
  have h2 : (-1 : Int32).toInt = -1 := rfl
  omega
theorem n_neg1' {a : Nat} (ha : a < 2147483648) : (nI a = -1) ↔ False := by simp [n_neg1 ha]
theorem n_toInt_tdiv {x y : Int32} (h : y ≠ -1) : (x / y).toInt = x.toInt.tdiv y.toInt := by
  rw [Int32.toInt_div_of_ne_right _ _ h]
theorem n_div {a b : Nat} (ha : a < 2147483648) (hb : b < 2147483648) : nI a / nI b = nI (a / b) := by
  apply Int32.toInt_inj.mp
  have hq : a / b ≤ a := Nat.div_le_self a b
  rw [n_toInt_tdiv (n_neg1 hb), n_int ha, n_int hb, n_int (by omega)]
  exact (Int.ofNat_tdiv a b).symm
theorem n_of_in {x : Int32} {N : Nat} (h : vp_in x N) : x = nI x.toNatClampNeg ∧ x.toNatClampNeg < N := by
  unfold vp_in at h
  have h0 : ¬ x < 0 := fun q => h (Or.inl q)
  have h1 : ¬ N ≤ x.toNatClampNeg := fun q => h (Or.inr q)
  exact ⟨(Int32.ofNat_toNatClampNeg x (by simpa using h0)).symm, by omega⟩
theorem in_def {x : Int32} {N : Nat} : vp_in x N ↔ (0 ≤ x.toInt ∧ x.toInt < N) := by
  unfold vp_in
  rw [Int32.lt_iff_toInt_lt]
  have h2 : (0 : Int32).toInt = 0 := rfl
  have h3 : x.toNatClampNeg = x.toInt.toNat := rfl
  rw [h2, h3]
  omega
theorem in_mono {x : Int32} {N M : Nat} (h : vp_in x N) (q : N ≤ M) : vp_in x M := by
  rw [in_def] at *; omega
theorem in_toInt {x : Int32} {N : Nat} (h : vp_in x N) : x.toInt = (x.toNatClampNeg : Int) := by
  have := in_def.mp h
  have h3 : x.toNatClampNeg = x.toInt.toNat := rfl
  omega
theorem gd_p {α : Type} {c : Prop} {x : Option α} (h : c) : gd c x = x := gd_t h
theorem bn_s {α β : Type} (a : α) (k : α → Option β) : bn (some a) k = k a := rfl
theorem bn2_s {α β γ : Type} (a : α) (b : γ) (k : α → γ → Option β) : bn2 (some (a, b)) k = k a b := rfl
theorem f_pos {n : Nat} (h : n ≤ 4999) : ∃ m, hFuel = (m + 1) + n := ⟨4999 - n, by unfold hFuel; omega⟩
theorem t_add {x y : Int32} (h1 : -2147483648 ≤ x.toInt + y.toInt) (h2 : x.toInt + y.toInt < 2147483648) : (x + y).toInt = x.toInt + y.toInt := by
  rw [Int32.toInt_add]
  apply Int.bmod_eq_of_le <;> omega
theorem t_sub {x y : Int32} (h1 : -2147483648 ≤ x.toInt - y.toInt) (h2 : x.toInt - y.toInt < 2147483648) : (x - y).toInt = x.toInt - y.toInt := by
  rw [Int32.toInt_sub]
  apply Int.bmod_eq_of_le <;> omega
theorem t_mul {x y : Int32} (h1 : -2147483648 ≤ x.toInt * y.toInt) (h2 : x.toInt * y.toInt < 2147483648) : (x * y).toInt = x.toInt * y.toInt := by
  rw [Int32.toInt_mul]
  apply Int.bmod_eq_of_le <;> omega
theorem t_lt {x y : Int32} : x < y ↔ x.toInt < y.toInt := Int32.lt_iff_toInt_lt
theorem t_le {x y : Int32} : x ≤ y ↔ x.toInt ≤ y.toInt := Int32.le_iff_toInt_le
theorem t_eq {x y : Int32} : x = y ↔ x.toInt = y.toInt := Int32.toInt_inj.symm
theorem t_n1 : (-1 : Int32).toInt = -1 := rfl
theorem n_lo {x : Int32} {n : Nat} (h0 : ¬ x < 0) (h1 : ¬ nI n ≤ x) (hn : n < 2147483648) : vp_in x n := by
  rw [in_def]; rw [t_lt] at h0; rw [t_le, n_int hn] at h1
  have : (0 : Int32).toInt = 0 := rfl
  omega
theorem n_lo' {x : Int32} {n : Nat} (h0 : ¬ x < 0) (h1 : x < nI n) (hn : n < 2147483648) : vp_in x n := by
  rw [in_def]; rw [t_lt] at h0; rw [t_lt, n_int hn] at h1
  have : (0 : Int32).toInt = 0 := rfl
  omega
theorem n_ex {x : Int32} {N : Nat} (h : vp_in x N) : ∃ a, a < N ∧ x = nI a := ⟨_, (n_of_in h).2, (n_of_in h).1⟩
theorem gd_T {α : Type} {x : Option α} : gd True x = x := gd_t trivial
theorem cd_T {β : Type} {a b : β} : cd True a b = a := cd_t trivial
theorem cd_F {β : Type} {a b : β} : cd False a b = b := cd_f (fun h => h)
theorem n_ge0 {a : Nat} (h : a < 2147483648) : ¬ nI a < 0 := by rw [n_lit, n_lt h (by decide)]; omega
