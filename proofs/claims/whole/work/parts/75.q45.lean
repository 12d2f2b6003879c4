/-! what the constructors make -/
def lkI : List (Nat × Nat × Int32) → Nat → Nat → Int32
  | [], _, _ => 0
  | q :: l, b, j => if b = q.1 ∧ j = q.2.1 then q.2.2 else lkI l b j
def lkR : List (Nat × Nat × Nat) → Nat → Nat → Option Nat
  | [], _, _ => none
  | q :: l, b, j => if b = q.1 ∧ j = q.2.1 then some q.2.2 else lkR l b j
def mkS (IL : List (Nat × Nat × Int32)) (RL : List (Nat × Nat × Nat)) (K N : List Nat) : HS := (fun b j => lkI IL b j, fun b j => lkR RL b j, fun _ _ => 0, fun c => K.getD c 99, fun c => N.getD c 0, K.length)
theorem lkI_no {b : Nat} : ∀ (IL : List (Nat × Nat × Int32)), IL.all (fun q => q.1 != b) = true → ∀ j, lkI IL b j = 0 := by
  intro IL
  induction IL with
  | nil => intro _ j; rfl
  | cons q l ih =>
    intro h j
    rw [List.all_cons, Bool.and_eq_true] at h
    have h1 : q.1 ≠ b := by simpa using h.1
    unfold lkI
    rw [if_neg (fun z => h1 z.1.symm)]
    exact ih h.2 j
theorem lkR_no {b : Nat} : ∀ (RL : List (Nat × Nat × Nat)), RL.all (fun q => q.1 != b) = true → ∀ j, lkR RL b j = none := by
  intro RL
  induction RL with
  | nil => intro _ j; rfl
  | cons q l ih =>
    intro h j
    rw [List.all_cons, Bool.and_eq_true] at h
    have h1 : q.1 ≠ b := by simpa using h.1
    unfold lkR
    rw [if_neg (fun z => h1 z.1.symm)]
    exact ih h.2 j
theorem getD_app {K : List Nat} {κ z b : Nat} : (K ++ [κ]).getD b z = if b = K.length then κ else K.getD b z := by
  rw [List.getD_eq_getElem?_getD, List.getD_eq_getElem?_getD]
  by_cases c : b < K.length
  · rw [List.getElem?_append_left c, if_neg (by omega)]
  · rw [List.getElem?_append_right (by omega)]
    by_cases c2 : b = K.length
    · rw [if_pos c2, c2, Nat.sub_self]; rfl
    · rw [if_neg c2, List.getElem?_eq_none (by simp; omega), List.getElem?_eq_none (by omega)]
section CT
variable {IL : List (Nat × Nat × Int32)} {RL : List (Nat × Nat × Nat)} {K N : List Nat}
theorem e_aN {κ n : Nat} (h1 : IL.all (fun q => q.1 != K.length) = true) (h2 : RL.all (fun q => q.1 != K.length) = true) (h3 : N.length = K.length) : aN (mkS IL RL K N) κ n = mkS IL RL (K ++ [κ]) (N ++ [n]) := by
  have e1 : (fun b j => if b = K.length then (0 : Int32) else lkI IL b j) = fun b j => lkI IL b j := by
    funext b j
    by_cases c : b = K.length
    · rw [if_pos c, c, lkI_no IL h1]
    · rw [if_neg c]
  have e2 : (fun b j => if b = K.length then (none : Option Nat) else lkR RL b j) = fun b j => lkR RL b j := by
    funext b j
    by_cases c : b = K.length
    · rw [if_pos c, c, lkR_no RL h2]
    · rw [if_neg c]
  have e3 : (fun b (j : Nat) => if b = K.length then (0 : Int64) else (fun _ _ => (0 : Int64)) b j) = fun (_ _ : Nat) => (0 : Int64) := by
    funext b j
    by_cases c : b = K.length
    · rw [if_pos c]
    · rw [if_neg c]
  have e4 : (fun b => if b = K.length then κ else K.getD b 99) = fun b => (K ++ [κ]).getD b 99 := by
    funext b; rw [getD_app]
  have e5 : (fun b => if b = K.length then n else N.getD b 0) = fun b => (N ++ [n]).getD b 0 := by
    funext b; rw [getD_app, h3]
  have e6 : K.length + 1 = (K ++ [κ]).length := by rw [List.length_append]; rfl
  unfold mkS
  rw [← e4, ← e5, ← e6]
  conv => rhs; rw [← e1, ← e2, ← e3]
  rfl
theorem c_aN {κ n n2 : Nat} {K2 N2 : List Nat} {k : HS → Option HS} {Y : Option HS} (h1 : IL.all (fun q => q.1 != K.length) = true) (h2 : RL.all (fun q => q.1 != K.length) = true) (h3 : N.length = K.length) (hn : n = n2) (hK : K ++ [κ] = K2) (hN : N ++ [n2] = N2) (h : k (mkS IL RL K2 N2) = Y) : bn (some (aN (mkS IL RL K N) κ n)) k = Y := by
  subst hn; subst hK; subst hN
  rw [e_aN h1 h2 h3]; exact h
theorem c_sR {x x2 v v2 j : Nat} {k : HS → Option HS} {Y : Option HS} (hx : x = x2) (hv : v = v2) (h : k (mkS IL ((x2, j, v2) :: RL) K N) = Y) : bn (some (sR (mkS IL RL K N) x j (some v))) k = Y := by
  subst hx; subst hv; exact h
theorem c_sI {x x2 j : Nat} {v v2 : Int32} {k : HS → Option HS} {Y : Option HS} (hx : x = x2) (hv : v = v2) (h : k (mkS ((x2, j, v2) :: IL) RL K N) = Y) : bn (some (sI (mkS IL RL K N) x j v)) k = Y := by
  subst hx; subst hv; exact h
theorem e_sK {c : Nat} (lc : c < K.length) : sK (mkS IL RL K N) c 0 = mkS IL RL (K.set c 0) N := by
  have e4 : (fun b => if b = c then 0 else K.getD b 99) = fun b => (K.set c 0).getD b 99 := by
    funext b
    rw [List.getD_eq_getElem?_getD, List.getD_eq_getElem?_getD, List.getElem?_set]
    by_cases z : b = c
    · rw [if_pos z, if_pos z.symm, if_pos lc]; rfl
    · rw [if_neg z, if_neg (fun y => z y.symm)]
  unfold mkS
  rw [← e4, List.length_set]
  rfl
theorem c_li {x x2 : Nat} {K2 : List Nat} {k : HS → Option HS} {Y : Option HS} (hx : x = x2) (hk : K.getD x2 99 = 11) (hr : lkR RL x2 1 = none) (lc : x2 < K.length) (hK : K.set x2 0 = K2) (h : k (mkS ((x2, 0, 0) :: IL) RL K2 N) = Y) : bn (fl_init x (mkS IL RL K N)) k = Y := by
  subst hx; subst hK
  unfold fl_init
  rw [gd_t ⟨hk, hr⟩, bn_s]
  rw [← e_sK lc] at h
  exact h
end CT
theorem gd_go {α : Type} {c : Prop} {x y : Option α} (h : c) (k : x = y) : gd c x = y := (gd_t h).trans k
theorem bn_ca {α β : Type} {o : Option α} {a : α} {k : α → Option β} {y : Option β} (h : o = some a) (h2 : k a = y) : bn o k = y := (bn_of h).trans h2
set_option maxRecDepth 100000 in
set_option maxHeartbeats 4000000 in
theorem ctor8 : fn_X8_init 0 (aN hS0 9 0) = some (mkS ((20, 0, 4) :: (18, 0, 4) :: (16, 0, 3) :: (5, 0, 0) :: (4, 0, 0) :: (2, 7, -1) :: []) ((0, 12, 23) :: (0, 11, 22) :: (0, 10, 20) :: (20, 1, 21) :: (0, 9, 18) :: (18, 1, 19) :: (0, 8, 16) :: (16, 1, 17) :: (0, 7, 15) :: (0, 6, 11) :: (11, 3, 7) :: (11, 2, 6) :: (11, 1, 5) :: (11, 0, 4) :: (11, 6, 14) :: (11, 5, 13) :: (11, 4, 12) :: (0, 5, 7) :: (7, 2, 10) :: (7, 1, 9) :: (7, 0, 8) :: (0, 4, 6) :: (0, 3, 5) :: (0, 2, 4) :: (0, 1, 2) :: (2, 0, 1) :: (2, 1, 3) :: (0, 0, 1) :: []) (9 :: 20 :: 5 :: 23 :: 0 :: 0 :: 21 :: 7 :: 24 :: 21 :: 21 :: 8 :: 2 :: 21 :: 21 :: 22 :: 6 :: 22 :: 6 :: 22 :: 6 :: 22 :: 21 :: 21 :: []) (0 :: 2000 :: 0 :: 156 :: 0 :: 0 :: 8 :: 0 :: 156 :: 156 :: 156 :: 0 :: 0 :: 9 :: 8 :: 320 :: 0 :: 960 :: 0 :: 112 :: 0 :: 624 :: 8 :: 8 :: [])) := by
  rw [show aN hS0 9 0 = mkS [] [] [9] [0] from e_aN (IL := []) (RL := []) (K := []) (N := []) rfl rfl rfl]
  unfold fn_X8_init
  refine gd_go (by decide +kernel) ?_
  refine c_aN (n2 := 2000) (K2 := (9 :: 20 :: [])) (N2 := (0 :: 2000 :: [])) (by decide +kernel) (by decide +kernel) (by decide +kernel) (by decide +kernel) (by decide +kernel) (by decide +kernel) ?_
  refine gd_go (by decide +kernel) ?_
  refine c_sR (x2 := 0) (v2 := 1) (by decide +kernel) (by decide +kernel) ?_
  refine gd_go (by decide +kernel) ?_
  refine c_aN (n2 := 0) (K2 := (9 :: 20 :: 5 :: [])) (N2 := (0 :: 2000 :: 0 :: [])) (by decide +kernel) (by decide +kernel) (by decide +kernel) (by decide +kernel) (by decide +kernel) (by decide +kernel) ?_
  refine gd_go (by decide +kernel) ?_
  refine bn_ca (a := 1) (by decide +kernel) ?_
  refine bn_ca (a := (mkS ((2, 7, -1) :: []) ((2, 0, 1) :: (2, 1, 3) :: (0, 0, 1) :: []) (9 :: 20 :: 5 :: 23 :: []) (0 :: 2000 :: 0 :: 156 :: []))) (by
      unfold fn_X4_init
      refine gd_go (by decide +kernel) ?_
      refine c_aN (n2 := 156) (K2 := (9 :: 20 :: 5 :: 23 :: [])) (N2 := (0 :: 2000 :: 0 :: 156 :: [])) (by decide +kernel) (by decide +kernel) (by decide +kernel) (by decide +kernel) (by decide +kernel) (by decide +kernel) ?_
      refine gd_go (by decide +kernel) ?_
      refine c_sR (x2 := 2) (v2 := 3) (by decide +kernel) (by decide +kernel) ?_
      refine gd_go (by decide +kernel) ?_
      refine c_sI (x2 := 2) (v2 := -1) (by decide +kernel) (by decide +kernel) ?_
      refine gd_go (by decide +kernel) ?_
      refine c_sR (x2 := 2) (v2 := 1) (by decide +kernel) (by decide +kernel) ?_
      rfl) ?_
  refine gd_go (by decide +kernel) ?_
  refine c_sR (x2 := 0) (v2 := 2) (by decide +kernel) (by decide +kernel) ?_
  unfold fn_X8_init_28
  refine gd_go (by decide +kernel) ?_
  refine gd_go (by decide +kernel) ?_
  refine c_aN (n2 := 0) (K2 := (9 :: 20 :: 5 :: 23 :: 11 :: [])) (N2 := (0 :: 2000 :: 0 :: 156 :: 0 :: [])) (by decide +kernel) (by decide +kernel) (by decide +kernel) (by decide +kernel) (by decide +kernel) (by decide +kernel) ?_
  refine c_li (x2 := 4) (K2 := (9 :: 20 :: 5 :: 23 :: 0 :: [])) (by decide +kernel) (by decide +kernel) (by decide +kernel) (by decide +kernel) (by decide +kernel) ?_
  refine gd_go (by decide +kernel) ?_
  refine c_sR (x2 := 0) (v2 := 4) (by decide +kernel) (by decide +kernel) ?_
  refine gd_go (by decide +kernel) ?_
  refine gd_go (by decide +kernel) ?_
  refine c_aN (n2 := 0) (K2 := (9 :: 20 :: 5 :: 23 :: 0 :: 11 :: [])) (N2 := (0 :: 2000 :: 0 :: 156 :: 0 :: 0 :: [])) (by decide +kernel) (by decide +kernel) (by decide +kernel) (by decide +kernel) (by decide +kernel) (by decide +kernel) ?_
  refine c_li (x2 := 5) (K2 := (9 :: 20 :: 5 :: 23 :: 0 :: 0 :: [])) (by decide +kernel) (by decide +kernel) (by decide +kernel) (by decide +kernel) (by decide +kernel) ?_
  refine gd_go (by decide +kernel) ?_
  refine c_sR (x2 := 0) (v2 := 5) (by decide +kernel) (by decide +kernel) ?_
  refine gd_go (by decide +kernel) ?_
  refine gd_go (by decide +kernel) ?_
  refine c_aN (n2 := 8) (K2 := (9 :: 20 :: 5 :: 23 :: 0 :: 0 :: 21 :: [])) (N2 := (0 :: 2000 :: 0 :: 156 :: 0 :: 0 :: 8 :: [])) (by decide +kernel) (by decide +kernel) (by decide +kernel) (by decide +kernel) (by decide +kernel) (by decide +kernel) ?_
  refine gd_go (by decide +kernel) ?_
  refine c_sR (x2 := 0) (v2 := 6) (by decide +kernel) (by decide +kernel) ?_
  unfold fn_X8_init_58
  refine gd_go (by decide +kernel) ?_
  refine gd_go (by decide +kernel) ?_
  refine c_aN (n2 := 0) (K2 := (9 :: 20 :: 5 :: 23 :: 0 :: 0 :: 21 :: 7 :: [])) (N2 := (0 :: 2000 :: 0 :: 156 :: 0 :: 0 :: 8 :: 0 :: [])) (by decide +kernel) (by decide +kernel) (by decide +kernel) (by decide +kernel) (by decide +kernel) (by decide +kernel) ?_
  refine gd_go (by decide +kernel) ?_
  refine bn_ca (a := (mkS ((5, 0, 0) :: (4, 0, 0) :: (2, 7, -1) :: []) ((7, 2, 10) :: (7, 1, 9) :: (7, 0, 8) :: (0, 4, 6) :: (0, 3, 5) :: (0, 2, 4) :: (0, 1, 2) :: (2, 0, 1) :: (2, 1, 3) :: (0, 0, 1) :: []) (9 :: 20 :: 5 :: 23 :: 0 :: 0 :: 21 :: 7 :: 24 :: 21 :: 21 :: []) (0 :: 2000 :: 0 :: 156 :: 0 :: 0 :: 8 :: 0 :: 156 :: 156 :: 156 :: []))) (by
      unfold fn_X6_init
      refine gd_go (by decide +kernel) ?_
      refine c_aN (n2 := 156) (K2 := (9 :: 20 :: 5 :: 23 :: 0 :: 0 :: 21 :: 7 :: 24 :: [])) (N2 := (0 :: 2000 :: 0 :: 156 :: 0 :: 0 :: 8 :: 0 :: 156 :: [])) (by decide +kernel) (by decide +kernel) (by decide +kernel) (by decide +kernel) (by decide +kernel) (by decide +kernel) ?_
      refine gd_go (by decide +kernel) ?_
      refine c_sR (x2 := 7) (v2 := 8) (by decide +kernel) (by decide +kernel) ?_
      refine gd_go (by decide +kernel) ?_
      refine c_aN (n2 := 156) (K2 := (9 :: 20 :: 5 :: 23 :: 0 :: 0 :: 21 :: 7 :: 24 :: 21 :: [])) (N2 := (0 :: 2000 :: 0 :: 156 :: 0 :: 0 :: 8 :: 0 :: 156 :: 156 :: [])) (by decide +kernel) (by decide +kernel) (by decide +kernel) (by decide +kernel) (by decide +kernel) (by decide +kernel) ?_
      refine gd_go (by decide +kernel) ?_
      refine c_sR (x2 := 7) (v2 := 9) (by decide +kernel) (by decide +kernel) ?_
      refine gd_go (by decide +kernel) ?_
      refine c_aN (n2 := 156) (K2 := (9 :: 20 :: 5 :: 23 :: 0 :: 0 :: 21 :: 7 :: 24 :: 21 :: 21 :: [])) (N2 := (0 :: 2000 :: 0 :: 156 :: 0 :: 0 :: 8 :: 0 :: 156 :: 156 :: 156 :: [])) (by decide +kernel) (by decide +kernel) (by decide +kernel) (by decide +kernel) (by decide +kernel) (by decide +kernel) ?_
      refine gd_go (by decide +kernel) ?_
      refine c_sR (x2 := 7) (v2 := 10) (by decide +kernel) (by decide +kernel) ?_
      rfl) ?_
  refine gd_go (by decide +kernel) ?_
  refine c_sR (x2 := 0) (v2 := 7) (by decide +kernel) (by decide +kernel) ?_
  refine gd_go (by decide +kernel) ?_
  refine gd_go (by decide +kernel) ?_
  refine c_aN (n2 := 0) (K2 := (9 :: 20 :: 5 :: 23 :: 0 :: 0 :: 21 :: 7 :: 24 :: 21 :: 21 :: 8 :: [])) (N2 := (0 :: 2000 :: 0 :: 156 :: 0 :: 0 :: 8 :: 0 :: 156 :: 156 :: 156 :: 0 :: [])) (by decide +kernel) (by decide +kernel) (by decide +kernel) (by decide +kernel) (by decide +kernel) (by decide +kernel) ?_
  refine gd_go (by decide +kernel) ?_
  refine gd_go (by decide +kernel) ?_
  refine gd_go (by decide +kernel) ?_
  refine gd_go (by decide +kernel) ?_
  refine bn_ca (a := 4) (by decide +kernel) ?_
  refine bn_ca (a := 5) (by decide +kernel) ?_
  refine bn_ca (a := 6) (by decide +kernel) ?_
  refine bn_ca (a := 7) (by decide +kernel) ?_
  refine gd_go (by decide +kernel) ?_
  refine bn_ca (a := (mkS ((5, 0, 0) :: (4, 0, 0) :: (2, 7, -1) :: []) ((11, 3, 7) :: (11, 2, 6) :: (11, 1, 5) :: (11, 0, 4) :: (11, 6, 14) :: (11, 5, 13) :: (11, 4, 12) :: (0, 5, 7) :: (7, 2, 10) :: (7, 1, 9) :: (7, 0, 8) :: (0, 4, 6) :: (0, 3, 5) :: (0, 2, 4) :: (0, 1, 2) :: (2, 0, 1) :: (2, 1, 3) :: (0, 0, 1) :: []) (9 :: 20 :: 5 :: 23 :: 0 :: 0 :: 21 :: 7 :: 24 :: 21 :: 21 :: 8 :: 2 :: 21 :: 21 :: []) (0 :: 2000 :: 0 :: 156 :: 0 :: 0 :: 8 :: 0 :: 156 :: 156 :: 156 :: 0 :: 0 :: 9 :: 8 :: []))) (by
      unfold fn_X7_init
      refine gd_go (by decide +kernel) ?_
      refine c_aN (n2 := 0) (K2 := (9 :: 20 :: 5 :: 23 :: 0 :: 0 :: 21 :: 7 :: 24 :: 21 :: 21 :: 8 :: 2 :: [])) (N2 := (0 :: 2000 :: 0 :: 156 :: 0 :: 0 :: 8 :: 0 :: 156 :: 156 :: 156 :: 0 :: 0 :: [])) (by decide +kernel) (by decide +kernel) (by decide +kernel) (by decide +kernel) (by decide +kernel) (by decide +kernel) ?_
      refine bn_ca (a := (mkS ((5, 0, 0) :: (4, 0, 0) :: (2, 7, -1) :: []) ((0, 5, 7) :: (7, 2, 10) :: (7, 1, 9) :: (7, 0, 8) :: (0, 4, 6) :: (0, 3, 5) :: (0, 2, 4) :: (0, 1, 2) :: (2, 0, 1) :: (2, 1, 3) :: (0, 0, 1) :: []) (9 :: 20 :: 5 :: 23 :: 0 :: 0 :: 21 :: 7 :: 24 :: 21 :: 21 :: 8 :: 2 :: []) (0 :: 2000 :: 0 :: 156 :: 0 :: 0 :: 8 :: 0 :: 156 :: 156 :: 156 :: 0 :: 0 :: []))) (by
          unfold fn_X1_init
          rfl) ?_
      refine gd_go (by decide +kernel) ?_
      refine c_sR (x2 := 11) (v2 := 12) (by decide +kernel) (by decide +kernel) ?_
      refine gd_go (by decide +kernel) ?_
      refine c_aN (n2 := 9) (K2 := (9 :: 20 :: 5 :: 23 :: 0 :: 0 :: 21 :: 7 :: 24 :: 21 :: 21 :: 8 :: 2 :: 21 :: [])) (N2 := (0 :: 2000 :: 0 :: 156 :: 0 :: 0 :: 8 :: 0 :: 156 :: 156 :: 156 :: 0 :: 0 :: 9 :: [])) (by decide +kernel) (by decide +kernel) (by decide +kernel) (by decide +kernel) (by decide +kernel) (by decide +kernel) ?_
      refine gd_go (by decide +kernel) ?_
      refine c_sR (x2 := 11) (v2 := 13) (by decide +kernel) (by decide +kernel) ?_
      refine gd_go (by decide +kernel) ?_
      refine c_aN (n2 := 8) (K2 := (9 :: 20 :: 5 :: 23 :: 0 :: 0 :: 21 :: 7 :: 24 :: 21 :: 21 :: 8 :: 2 :: 21 :: 21 :: [])) (N2 := (0 :: 2000 :: 0 :: 156 :: 0 :: 0 :: 8 :: 0 :: 156 :: 156 :: 156 :: 0 :: 0 :: 9 :: 8 :: [])) (by decide +kernel) (by decide +kernel) (by decide +kernel) (by decide +kernel) (by decide +kernel) (by decide +kernel) ?_
      refine gd_go (by decide +kernel) ?_
      refine c_sR (x2 := 11) (v2 := 14) (by decide +kernel) (by decide +kernel) ?_
      refine gd_go (by decide +kernel) ?_
      refine c_sR (x2 := 11) (v2 := 4) (by decide +kernel) (by decide +kernel) ?_
      refine gd_go (by decide +kernel) ?_
      refine c_sR (x2 := 11) (v2 := 5) (by decide +kernel) (by decide +kernel) ?_
      refine gd_go (by decide +kernel) ?_
      refine c_sR (x2 := 11) (v2 := 6) (by decide +kernel) (by decide +kernel) ?_
      refine gd_go (by decide +kernel) ?_
      refine c_sR (x2 := 11) (v2 := 7) (by decide +kernel) (by decide +kernel) ?_
      rfl) ?_
  refine gd_go (by decide +kernel) ?_
  refine c_sR (x2 := 0) (v2 := 11) (by decide +kernel) (by decide +kernel) ?_
  unfold fn_X8_init_96
  refine gd_go (by decide +kernel) ?_
  refine gd_go (by decide +kernel) ?_
  refine c_aN (n2 := 320) (K2 := (9 :: 20 :: 5 :: 23 :: 0 :: 0 :: 21 :: 7 :: 24 :: 21 :: 21 :: 8 :: 2 :: 21 :: 21 :: 22 :: [])) (N2 := (0 :: 2000 :: 0 :: 156 :: 0 :: 0 :: 8 :: 0 :: 156 :: 156 :: 156 :: 0 :: 0 :: 9 :: 8 :: 320 :: [])) (by decide +kernel) (by decide +kernel) (by decide +kernel) (by decide +kernel) (by decide +kernel) (by decide +kernel) ?_
  refine gd_go (by decide +kernel) ?_
  refine c_sR (x2 := 0) (v2 := 15) (by decide +kernel) (by decide +kernel) ?_
  refine gd_go (by decide +kernel) ?_
  refine gd_go (by decide +kernel) ?_
  refine c_aN (n2 := 0) (K2 := (9 :: 20 :: 5 :: 23 :: 0 :: 0 :: 21 :: 7 :: 24 :: 21 :: 21 :: 8 :: 2 :: 21 :: 21 :: 22 :: 6 :: [])) (N2 := (0 :: 2000 :: 0 :: 156 :: 0 :: 0 :: 8 :: 0 :: 156 :: 156 :: 156 :: 0 :: 0 :: 9 :: 8 :: 320 :: 0 :: [])) (by decide +kernel) (by decide +kernel) (by decide +kernel) (by decide +kernel) (by decide +kernel) (by decide +kernel) ?_
  refine gd_go (by decide +kernel) ?_
  refine bn_ca (a := (mkS ((16, 0, 3) :: (5, 0, 0) :: (4, 0, 0) :: (2, 7, -1) :: []) ((16, 1, 17) :: (0, 7, 15) :: (0, 6, 11) :: (11, 3, 7) :: (11, 2, 6) :: (11, 1, 5) :: (11, 0, 4) :: (11, 6, 14) :: (11, 5, 13) :: (11, 4, 12) :: (0, 5, 7) :: (7, 2, 10) :: (7, 1, 9) :: (7, 0, 8) :: (0, 4, 6) :: (0, 3, 5) :: (0, 2, 4) :: (0, 1, 2) :: (2, 0, 1) :: (2, 1, 3) :: (0, 0, 1) :: []) (9 :: 20 :: 5 :: 23 :: 0 :: 0 :: 21 :: 7 :: 24 :: 21 :: 21 :: 8 :: 2 :: 21 :: 21 :: 22 :: 6 :: 22 :: []) (0 :: 2000 :: 0 :: 156 :: 0 :: 0 :: 8 :: 0 :: 156 :: 156 :: 156 :: 0 :: 0 :: 9 :: 8 :: 320 :: 0 :: 960 :: []))) (by
      unfold fn_X5_init
      refine gd_go (by decide +kernel) ?_
      refine c_sI (x2 := 16) (v2 := 3) (by decide +kernel) (by decide +kernel) ?_
      refine gd_go (by decide +kernel) ?_
      refine gd_go (by decide +kernel) ?_
      refine c_aN (n2 := 960) (K2 := (9 :: 20 :: 5 :: 23 :: 0 :: 0 :: 21 :: 7 :: 24 :: 21 :: 21 :: 8 :: 2 :: 21 :: 21 :: 22 :: 6 :: 22 :: [])) (N2 := (0 :: 2000 :: 0 :: 156 :: 0 :: 0 :: 8 :: 0 :: 156 :: 156 :: 156 :: 0 :: 0 :: 9 :: 8 :: 320 :: 0 :: 960 :: [])) (by decide +kernel) (by decide +kernel) (by decide +kernel) (by decide +kernel) (by decide +kernel) (by decide +kernel) ?_
      refine gd_go (by decide +kernel) ?_
      refine c_sR (x2 := 16) (v2 := 17) (by decide +kernel) (by decide +kernel) ?_
      rfl) ?_
  refine gd_go (by decide +kernel) ?_
  refine c_sR (x2 := 0) (v2 := 16) (by decide +kernel) (by decide +kernel) ?_
  refine gd_go (by decide +kernel) ?_
  refine gd_go (by decide +kernel) ?_
  refine c_aN (n2 := 0) (K2 := (9 :: 20 :: 5 :: 23 :: 0 :: 0 :: 21 :: 7 :: 24 :: 21 :: 21 :: 8 :: 2 :: 21 :: 21 :: 22 :: 6 :: 22 :: 6 :: [])) (N2 := (0 :: 2000 :: 0 :: 156 :: 0 :: 0 :: 8 :: 0 :: 156 :: 156 :: 156 :: 0 :: 0 :: 9 :: 8 :: 320 :: 0 :: 960 :: 0 :: [])) (by decide +kernel) (by decide +kernel) (by decide +kernel) (by decide +kernel) (by decide +kernel) (by decide +kernel) ?_
  refine gd_go (by decide +kernel) ?_
  refine bn_ca (a := (mkS ((18, 0, 4) :: (16, 0, 3) :: (5, 0, 0) :: (4, 0, 0) :: (2, 7, -1) :: []) ((18, 1, 19) :: (0, 8, 16) :: (16, 1, 17) :: (0, 7, 15) :: (0, 6, 11) :: (11, 3, 7) :: (11, 2, 6) :: (11, 1, 5) :: (11, 0, 4) :: (11, 6, 14) :: (11, 5, 13) :: (11, 4, 12) :: (0, 5, 7) :: (7, 2, 10) :: (7, 1, 9) :: (7, 0, 8) :: (0, 4, 6) :: (0, 3, 5) :: (0, 2, 4) :: (0, 1, 2) :: (2, 0, 1) :: (2, 1, 3) :: (0, 0, 1) :: []) (9 :: 20 :: 5 :: 23 :: 0 :: 0 :: 21 :: 7 :: 24 :: 21 :: 21 :: 8 :: 2 :: 21 :: 21 :: 22 :: 6 :: 22 :: 6 :: 22 :: []) (0 :: 2000 :: 0 :: 156 :: 0 :: 0 :: 8 :: 0 :: 156 :: 156 :: 156 :: 0 :: 0 :: 9 :: 8 :: 320 :: 0 :: 960 :: 0 :: 112 :: []))) (by
      unfold fn_X5_init
      refine gd_go (by decide +kernel) ?_
      refine c_sI (x2 := 18) (v2 := 4) (by decide +kernel) (by decide +kernel) ?_
      refine gd_go (by decide +kernel) ?_
      refine gd_go (by decide +kernel) ?_
      refine c_aN (n2 := 112) (K2 := (9 :: 20 :: 5 :: 23 :: 0 :: 0 :: 21 :: 7 :: 24 :: 21 :: 21 :: 8 :: 2 :: 21 :: 21 :: 22 :: 6 :: 22 :: 6 :: 22 :: [])) (N2 := (0 :: 2000 :: 0 :: 156 :: 0 :: 0 :: 8 :: 0 :: 156 :: 156 :: 156 :: 0 :: 0 :: 9 :: 8 :: 320 :: 0 :: 960 :: 0 :: 112 :: [])) (by decide +kernel) (by decide +kernel) (by decide +kernel) (by decide +kernel) (by decide +kernel) (by decide +kernel) ?_
      refine gd_go (by decide +kernel) ?_
      refine c_sR (x2 := 18) (v2 := 19) (by decide +kernel) (by decide +kernel) ?_
      rfl) ?_
  refine gd_go (by decide +kernel) ?_
  refine c_sR (x2 := 0) (v2 := 18) (by decide +kernel) (by decide +kernel) ?_
  unfold fn_X8_init_134
  refine gd_go (by decide +kernel) ?_
  refine gd_go (by decide +kernel) ?_
  refine c_aN (n2 := 0) (K2 := (9 :: 20 :: 5 :: 23 :: 0 :: 0 :: 21 :: 7 :: 24 :: 21 :: 21 :: 8 :: 2 :: 21 :: 21 :: 22 :: 6 :: 22 :: 6 :: 22 :: 6 :: [])) (N2 := (0 :: 2000 :: 0 :: 156 :: 0 :: 0 :: 8 :: 0 :: 156 :: 156 :: 156 :: 0 :: 0 :: 9 :: 8 :: 320 :: 0 :: 960 :: 0 :: 112 :: 0 :: [])) (by decide +kernel) (by decide +kernel) (by decide +kernel) (by decide +kernel) (by decide +kernel) (by decide +kernel) ?_
  refine gd_go (by decide +kernel) ?_
  refine bn_ca (a := (mkS ((20, 0, 4) :: (18, 0, 4) :: (16, 0, 3) :: (5, 0, 0) :: (4, 0, 0) :: (2, 7, -1) :: []) ((20, 1, 21) :: (0, 9, 18) :: (18, 1, 19) :: (0, 8, 16) :: (16, 1, 17) :: (0, 7, 15) :: (0, 6, 11) :: (11, 3, 7) :: (11, 2, 6) :: (11, 1, 5) :: (11, 0, 4) :: (11, 6, 14) :: (11, 5, 13) :: (11, 4, 12) :: (0, 5, 7) :: (7, 2, 10) :: (7, 1, 9) :: (7, 0, 8) :: (0, 4, 6) :: (0, 3, 5) :: (0, 2, 4) :: (0, 1, 2) :: (2, 0, 1) :: (2, 1, 3) :: (0, 0, 1) :: []) (9 :: 20 :: 5 :: 23 :: 0 :: 0 :: 21 :: 7 :: 24 :: 21 :: 21 :: 8 :: 2 :: 21 :: 21 :: 22 :: 6 :: 22 :: 6 :: 22 :: 6 :: 22 :: []) (0 :: 2000 :: 0 :: 156 :: 0 :: 0 :: 8 :: 0 :: 156 :: 156 :: 156 :: 0 :: 0 :: 9 :: 8 :: 320 :: 0 :: 960 :: 0 :: 112 :: 0 :: 624 :: []))) (by
      unfold fn_X5_init
      refine gd_go (by decide +kernel) ?_
      refine c_sI (x2 := 20) (v2 := 4) (by decide +kernel) (by decide +kernel) ?_
      refine gd_go (by decide +kernel) ?_
      refine gd_go (by decide +kernel) ?_
      refine c_aN (n2 := 624) (K2 := (9 :: 20 :: 5 :: 23 :: 0 :: 0 :: 21 :: 7 :: 24 :: 21 :: 21 :: 8 :: 2 :: 21 :: 21 :: 22 :: 6 :: 22 :: 6 :: 22 :: 6 :: 22 :: [])) (N2 := (0 :: 2000 :: 0 :: 156 :: 0 :: 0 :: 8 :: 0 :: 156 :: 156 :: 156 :: 0 :: 0 :: 9 :: 8 :: 320 :: 0 :: 960 :: 0 :: 112 :: 0 :: 624 :: [])) (by decide +kernel) (by decide +kernel) (by decide +kernel) (by decide +kernel) (by decide +kernel) (by decide +kernel) ?_
      refine gd_go (by decide +kernel) ?_
      refine c_sR (x2 := 20) (v2 := 21) (by decide +kernel) (by decide +kernel) ?_
      rfl) ?_
  refine gd_go (by decide +kernel) ?_
  refine c_sR (x2 := 0) (v2 := 20) (by decide +kernel) (by decide +kernel) ?_
  refine gd_go (by decide +kernel) ?_
  refine gd_go (by decide +kernel) ?_
  refine c_aN (n2 := 8) (K2 := (9 :: 20 :: 5 :: 23 :: 0 :: 0 :: 21 :: 7 :: 24 :: 21 :: 21 :: 8 :: 2 :: 21 :: 21 :: 22 :: 6 :: 22 :: 6 :: 22 :: 6 :: 22 :: 21 :: [])) (N2 := (0 :: 2000 :: 0 :: 156 :: 0 :: 0 :: 8 :: 0 :: 156 :: 156 :: 156 :: 0 :: 0 :: 9 :: 8 :: 320 :: 0 :: 960 :: 0 :: 112 :: 0 :: 624 :: 8 :: [])) (by decide +kernel) (by decide +kernel) (by decide +kernel) (by decide +kernel) (by decide +kernel) (by decide +kernel) ?_
  refine gd_go (by decide +kernel) ?_
  refine c_sR (x2 := 0) (v2 := 22) (by decide +kernel) (by decide +kernel) ?_
  refine gd_go (by decide +kernel) ?_
  refine gd_go (by decide +kernel) ?_
  refine c_aN (n2 := 8) (K2 := (9 :: 20 :: 5 :: 23 :: 0 :: 0 :: 21 :: 7 :: 24 :: 21 :: 21 :: 8 :: 2 :: 21 :: 21 :: 22 :: 6 :: 22 :: 6 :: 22 :: 6 :: 22 :: 21 :: 21 :: [])) (N2 := (0 :: 2000 :: 0 :: 156 :: 0 :: 0 :: 8 :: 0 :: 156 :: 156 :: 156 :: 0 :: 0 :: 9 :: 8 :: 320 :: 0 :: 960 :: 0 :: 112 :: 0 :: 624 :: 8 :: 8 :: [])) (by decide +kernel) (by decide +kernel) (by decide +kernel) (by decide +kernel) (by decide +kernel) (by decide +kernel) ?_
  refine gd_go (by decide +kernel) ?_
  refine c_sR (x2 := 0) (v2 := 23) (by decide +kernel) (by decide +kernel) ?_
  unfold fn_X8_init_165
  rfl
def iC : List (Nat × Nat × Int32) := ((20, 0, 4) :: (18, 0, 4) :: (16, 0, 3) :: (5, 0, 0) :: (4, 0, 0) :: (2, 7, -1) :: [])
def rC : List (Nat × Nat × Nat) := ((0, 12, 23) :: (0, 11, 22) :: (0, 10, 20) :: (20, 1, 21) :: (0, 9, 18) :: (18, 1, 19) :: (0, 8, 16) :: (16, 1, 17) :: (0, 7, 15) :: (0, 6, 11) :: (11, 3, 7) :: (11, 2, 6) :: (11, 1, 5) :: (11, 0, 4) :: (11, 6, 14) :: (11, 5, 13) :: (11, 4, 12) :: (0, 5, 7) :: (7, 2, 10) :: (7, 1, 9) :: (7, 0, 8) :: (0, 4, 6) :: (0, 3, 5) :: (0, 2, 4) :: (0, 1, 2) :: (2, 0, 1) :: (2, 1, 3) :: (0, 0, 1) :: [])
def kC : List Nat := (9 :: 20 :: 5 :: 23 :: 0 :: 0 :: 21 :: 7 :: 24 :: 21 :: 21 :: 8 :: 2 :: 21 :: 21 :: 22 :: 6 :: 22 :: 6 :: 22 :: 6 :: 22 :: 21 :: 21 :: [])
def nC : List Nat := (0 :: 2000 :: 0 :: 156 :: 0 :: 0 :: 8 :: 0 :: 156 :: 156 :: 156 :: 0 :: 0 :: 9 :: 8 :: 320 :: 0 :: 960 :: 0 :: 112 :: 0 :: 624 :: 8 :: 8 :: [])
theorem madeC : fn_X8_init 0 (aN hS0 9 0) = some (mkS iC rC kC nC) := ctor8
set_option maxRecDepth 100000 in
set_option maxHeartbeats 4000000 in
theorem ctor9 : fn_X9_init 0 (aN hS0 10 0) = some (mkS ((0, 25, -1) :: []) ((0, 58, 40) :: (0, 56, 39) :: (0, 53, 38) :: (0, 52, 37) :: (0, 51, 36) :: (0, 50, 35) :: (0, 49, 34) :: (0, 48, 33) :: (0, 47, 32) :: (0, 46, 31) :: (0, 45, 30) :: (0, 44, 29) :: (0, 43, 28) :: (0, 42, 27) :: (0, 41, 26) :: (0, 40, 25) :: (0, 39, 24) :: (0, 38, 23) :: (0, 37, 22) :: (0, 36, 21) :: (0, 35, 20) :: (0, 33, 19) :: (0, 32, 18) :: (0, 31, 17) :: (0, 30, 16) :: (0, 29, 15) :: (0, 27, 14) :: (0, 16, 13) :: (0, 15, 12) :: (0, 14, 11) :: (0, 13, 10) :: (0, 12, 9) :: (0, 11, 8) :: (0, 10, 7) :: (0, 9, 6) :: (0, 8, 5) :: (0, 6, 4) :: (0, 5, 3) :: (0, 4, 2) :: (0, 1, 1) :: []) (10 :: 21 :: 21 :: 21 :: 21 :: 21 :: 23 :: 21 :: 21 :: 21 :: 21 :: 23 :: 21 :: 21 :: 21 :: 21 :: 21 :: 21 :: 21 :: 21 :: 21 :: 21 :: 21 :: 21 :: 21 :: 21 :: 21 :: 21 :: 21 :: 21 :: 21 :: 21 :: 21 :: 23 :: 22 :: 22 :: 21 :: 21 :: 22 :: 21 :: 21 :: []) (0 :: 2000 :: 12 :: 12 :: 13 :: 481 :: 481 :: 481 :: 481 :: 481 :: 481 :: 481 :: 3848 :: 481 :: 8 :: 200 :: 200 :: 200 :: 200 :: 200 :: 156 :: 156 :: 156 :: 72 :: 8 :: 8 :: 8 :: 8 :: 8 :: 8 :: 8 :: 8 :: 8 :: 8 :: 320 :: 320 :: 320 :: 320 :: 320 :: 112 :: 624 :: [])) := by
  rw [show aN hS0 10 0 = mkS [] [] [10] [0] from e_aN (IL := []) (RL := []) (K := []) (N := []) rfl rfl rfl]
  unfold fn_X9_init
  refine gd_go (by decide +kernel) ?_
  refine c_aN (n2 := 2000) (K2 := (10 :: 21 :: [])) (N2 := (0 :: 2000 :: [])) (by decide +kernel) (by decide +kernel) (by decide +kernel) (by decide +kernel) (by decide +kernel) (by decide +kernel) ?_
  refine gd_go (by decide +kernel) ?_
  refine c_sR (x2 := 0) (v2 := 1) (by decide +kernel) (by decide +kernel) ?_
  refine gd_go (by decide +kernel) ?_
  refine c_aN (n2 := 12) (K2 := (10 :: 21 :: 21 :: [])) (N2 := (0 :: 2000 :: 12 :: [])) (by decide +kernel) (by decide +kernel) (by decide +kernel) (by decide +kernel) (by decide +kernel) (by decide +kernel) ?_
  refine gd_go (by decide +kernel) ?_
  refine c_sR (x2 := 0) (v2 := 2) (by decide +kernel) (by decide +kernel) ?_
  refine gd_go (by decide +kernel) ?_
  refine c_aN (n2 := 12) (K2 := (10 :: 21 :: 21 :: 21 :: [])) (N2 := (0 :: 2000 :: 12 :: 12 :: [])) (by decide +kernel) (by decide +kernel) (by decide +kernel) (by decide +kernel) (by decide +kernel) (by decide +kernel) ?_
  refine gd_go (by decide +kernel) ?_
  refine c_sR (x2 := 0) (v2 := 3) (by decide +kernel) (by decide +kernel) ?_
  unfold fn_X9_init_29
  refine gd_go (by decide +kernel) ?_
  refine gd_go (by decide +kernel) ?_
  refine c_aN (n2 := 13) (K2 := (10 :: 21 :: 21 :: 21 :: 21 :: [])) (N2 := (0 :: 2000 :: 12 :: 12 :: 13 :: [])) (by decide +kernel) (by decide +kernel) (by decide +kernel) (by decide +kernel) (by decide +kernel) (by decide +kernel) ?_
  refine gd_go (by decide +kernel) ?_
  refine c_sR (x2 := 0) (v2 := 4) (by decide +kernel) (by decide +kernel) ?_
  refine gd_go (by decide +kernel) ?_
  refine gd_go (by decide +kernel) ?_
  refine c_aN (n2 := 481) (K2 := (10 :: 21 :: 21 :: 21 :: 21 :: 21 :: [])) (N2 := (0 :: 2000 :: 12 :: 12 :: 13 :: 481 :: [])) (by decide +kernel) (by decide +kernel) (by decide +kernel) (by decide +kernel) (by decide +kernel) (by decide +kernel) ?_
  refine gd_go (by decide +kernel) ?_
  refine c_sR (x2 := 0) (v2 := 5) (by decide +kernel) (by decide +kernel) ?_
  refine gd_go (by decide +kernel) ?_
  refine gd_go (by decide +kernel) ?_
  refine c_aN (n2 := 481) (K2 := (10 :: 21 :: 21 :: 21 :: 21 :: 21 :: 23 :: [])) (N2 := (0 :: 2000 :: 12 :: 12 :: 13 :: 481 :: 481 :: [])) (by decide +kernel) (by decide +kernel) (by decide +kernel) (by decide +kernel) (by decide +kernel) (by decide +kernel) ?_
  refine gd_go (by decide +kernel) ?_
  refine c_sR (x2 := 0) (v2 := 6) (by decide +kernel) (by decide +kernel) ?_
  unfold fn_X9_init_55
  refine gd_go (by decide +kernel) ?_
  refine gd_go (by decide +kernel) ?_
  refine c_aN (n2 := 481) (K2 := (10 :: 21 :: 21 :: 21 :: 21 :: 21 :: 23 :: 21 :: [])) (N2 := (0 :: 2000 :: 12 :: 12 :: 13 :: 481 :: 481 :: 481 :: [])) (by decide +kernel) (by decide +kernel) (by decide +kernel) (by decide +kernel) (by decide +kernel) (by decide +kernel) ?_
  refine gd_go (by decide +kernel) ?_
  refine c_sR (x2 := 0) (v2 := 7) (by decide +kernel) (by decide +kernel) ?_
  refine gd_go (by decide +kernel) ?_
  refine gd_go (by decide +kernel) ?_
  refine c_aN (n2 := 481) (K2 := (10 :: 21 :: 21 :: 21 :: 21 :: 21 :: 23 :: 21 :: 21 :: [])) (N2 := (0 :: 2000 :: 12 :: 12 :: 13 :: 481 :: 481 :: 481 :: 481 :: [])) (by decide +kernel) (by decide +kernel) (by decide +kernel) (by decide +kernel) (by decide +kernel) (by decide +kernel) ?_
  refine gd_go (by decide +kernel) ?_
  refine c_sR (x2 := 0) (v2 := 8) (by decide +kernel) (by decide +kernel) ?_
  refine gd_go (by decide +kernel) ?_
  refine gd_go (by decide +kernel) ?_
  refine c_aN (n2 := 481) (K2 := (10 :: 21 :: 21 :: 21 :: 21 :: 21 :: 23 :: 21 :: 21 :: 21 :: [])) (N2 := (0 :: 2000 :: 12 :: 12 :: 13 :: 481 :: 481 :: 481 :: 481 :: 481 :: [])) (by decide +kernel) (by decide +kernel) (by decide +kernel) (by decide +kernel) (by decide +kernel) (by decide +kernel) ?_
  refine gd_go (by decide +kernel) ?_
  refine c_sR (x2 := 0) (v2 := 9) (by decide +kernel) (by decide +kernel) ?_
  unfold fn_X9_init_82
  refine gd_go (by decide +kernel) ?_
  refine gd_go (by decide +kernel) ?_
  refine c_aN (n2 := 481) (K2 := (10 :: 21 :: 21 :: 21 :: 21 :: 21 :: 23 :: 21 :: 21 :: 21 :: 21 :: [])) (N2 := (0 :: 2000 :: 12 :: 12 :: 13 :: 481 :: 481 :: 481 :: 481 :: 481 :: 481 :: [])) (by decide +kernel) (by decide +kernel) (by decide +kernel) (by decide +kernel) (by decide +kernel) (by decide +kernel) ?_
  refine gd_go (by decide +kernel) ?_
  refine c_sR (x2 := 0) (v2 := 10) (by decide +kernel) (by decide +kernel) ?_
  refine gd_go (by decide +kernel) ?_
  refine gd_go (by decide +kernel) ?_
  refine c_aN (n2 := 481) (K2 := (10 :: 21 :: 21 :: 21 :: 21 :: 21 :: 23 :: 21 :: 21 :: 21 :: 21 :: 23 :: [])) (N2 := (0 :: 2000 :: 12 :: 12 :: 13 :: 481 :: 481 :: 481 :: 481 :: 481 :: 481 :: 481 :: [])) (by decide +kernel) (by decide +kernel) (by decide +kernel) (by decide +kernel) (by decide +kernel) (by decide +kernel) ?_
  refine gd_go (by decide +kernel) ?_
  refine c_sR (x2 := 0) (v2 := 11) (by decide +kernel) (by decide +kernel) ?_
  refine gd_go (by decide +kernel) ?_
  refine gd_go (by decide +kernel) ?_
  refine c_aN (n2 := 3848) (K2 := (10 :: 21 :: 21 :: 21 :: 21 :: 21 :: 23 :: 21 :: 21 :: 21 :: 21 :: 23 :: 21 :: [])) (N2 := (0 :: 2000 :: 12 :: 12 :: 13 :: 481 :: 481 :: 481 :: 481 :: 481 :: 481 :: 481 :: 3848 :: [])) (by decide +kernel) (by decide +kernel) (by decide +kernel) (by decide +kernel) (by decide +kernel) (by decide +kernel) ?_
  refine gd_go (by decide +kernel) ?_
  refine c_sR (x2 := 0) (v2 := 12) (by decide +kernel) (by decide +kernel) ?_
  unfold fn_X9_init_109
  refine gd_go (by decide +kernel) ?_
  refine gd_go (by decide +kernel) ?_
  refine c_aN (n2 := 481) (K2 := (10 :: 21 :: 21 :: 21 :: 21 :: 21 :: 23 :: 21 :: 21 :: 21 :: 21 :: 23 :: 21 :: 21 :: [])) (N2 := (0 :: 2000 :: 12 :: 12 :: 13 :: 481 :: 481 :: 481 :: 481 :: 481 :: 481 :: 481 :: 3848 :: 481 :: [])) (by decide +kernel) (by decide +kernel) (by decide +kernel) (by decide +kernel) (by decide +kernel) (by decide +kernel) ?_
  refine gd_go (by decide +kernel) ?_
  refine c_sR (x2 := 0) (v2 := 13) (by decide +kernel) (by decide +kernel) ?_
  refine gd_go (by decide +kernel) ?_
  refine c_sI (x2 := 0) (v2 := -1) (by decide +kernel) (by decide +kernel) ?_
  refine gd_go (by decide +kernel) ?_
  refine gd_go (by decide +kernel) ?_
  refine c_aN (n2 := 8) (K2 := (10 :: 21 :: 21 :: 21 :: 21 :: 21 :: 23 :: 21 :: 21 :: 21 :: 21 :: 23 :: 21 :: 21 :: 21 :: [])) (N2 := (0 :: 2000 :: 12 :: 12 :: 13 :: 481 :: 481 :: 481 :: 481 :: 481 :: 481 :: 481 :: 3848 :: 481 :: 8 :: [])) (by decide +kernel) (by decide +kernel) (by decide +kernel) (by decide +kernel) (by decide +kernel) (by decide +kernel) ?_
  refine gd_go (by decide +kernel) ?_
  refine c_sR (x2 := 0) (v2 := 14) (by decide +kernel) (by decide +kernel) ?_
  refine gd_go (by decide +kernel) ?_
  refine gd_go (by decide +kernel) ?_
  refine c_aN (n2 := 200) (K2 := (10 :: 21 :: 21 :: 21 :: 21 :: 21 :: 23 :: 21 :: 21 :: 21 :: 21 :: 23 :: 21 :: 21 :: 21 :: 21 :: [])) (N2 := (0 :: 2000 :: 12 :: 12 :: 13 :: 481 :: 481 :: 481 :: 481 :: 481 :: 481 :: 481 :: 3848 :: 481 :: 8 :: 200 :: [])) (by decide +kernel) (by decide +kernel) (by decide +kernel) (by decide +kernel) (by decide +kernel) (by decide +kernel) ?_
  refine gd_go (by decide +kernel) ?_
  refine c_sR (x2 := 0) (v2 := 15) (by decide +kernel) (by decide +kernel) ?_
  unfold fn_X9_init_140
  refine gd_go (by decide +kernel) ?_
  refine gd_go (by decide +kernel) ?_
  refine c_aN (n2 := 200) (K2 := (10 :: 21 :: 21 :: 21 :: 21 :: 21 :: 23 :: 21 :: 21 :: 21 :: 21 :: 23 :: 21 :: 21 :: 21 :: 21 :: 21 :: [])) (N2 := (0 :: 2000 :: 12 :: 12 :: 13 :: 481 :: 481 :: 481 :: 481 :: 481 :: 481 :: 481 :: 3848 :: 481 :: 8 :: 200 :: 200 :: [])) (by decide +kernel) (by decide +kernel) (by decide +kernel) (by decide +kernel) (by decide +kernel) (by decide +kernel) ?_
  refine gd_go (by decide +kernel) ?_
  refine c_sR (x2 := 0) (v2 := 16) (by decide +kernel) (by decide +kernel) ?_
  refine gd_go (by decide +kernel) ?_
  refine gd_go (by decide +kernel) ?_
  refine c_aN (n2 := 200) (K2 := (10 :: 21 :: 21 :: 21 :: 21 :: 21 :: 23 :: 21 :: 21 :: 21 :: 21 :: 23 :: 21 :: 21 :: 21 :: 21 :: 21 :: 21 :: [])) (N2 := (0 :: 2000 :: 12 :: 12 :: 13 :: 481 :: 481 :: 481 :: 481 :: 481 :: 481 :: 481 :: 3848 :: 481 :: 8 :: 200 :: 200 :: 200 :: [])) (by decide +kernel) (by decide +kernel) (by decide +kernel) (by decide +kernel) (by decide +kernel) (by decide +kernel) ?_
  refine gd_go (by decide +kernel) ?_
  refine c_sR (x2 := 0) (v2 := 17) (by decide +kernel) (by decide +kernel) ?_
  refine gd_go (by decide +kernel) ?_
  refine gd_go (by decide +kernel) ?_
  refine c_aN (n2 := 200) (K2 := (10 :: 21 :: 21 :: 21 :: 21 :: 21 :: 23 :: 21 :: 21 :: 21 :: 21 :: 23 :: 21 :: 21 :: 21 :: 21 :: 21 :: 21 :: 21 :: [])) (N2 := (0 :: 2000 :: 12 :: 12 :: 13 :: 481 :: 481 :: 481 :: 481 :: 481 :: 481 :: 481 :: 3848 :: 481 :: 8 :: 200 :: 200 :: 200 :: 200 :: [])) (by decide +kernel) (by decide +kernel) (by decide +kernel) (by decide +kernel) (by decide +kernel) (by decide +kernel) ?_
  refine gd_go (by decide +kernel) ?_
  refine c_sR (x2 := 0) (v2 := 18) (by decide +kernel) (by decide +kernel) ?_
  unfold fn_X9_init_167
  refine gd_go (by decide +kernel) ?_
  refine gd_go (by decide +kernel) ?_
  refine c_aN (n2 := 200) (K2 := (10 :: 21 :: 21 :: 21 :: 21 :: 21 :: 23 :: 21 :: 21 :: 21 :: 21 :: 23 :: 21 :: 21 :: 21 :: 21 :: 21 :: 21 :: 21 :: 21 :: [])) (N2 := (0 :: 2000 :: 12 :: 12 :: 13 :: 481 :: 481 :: 481 :: 481 :: 481 :: 481 :: 481 :: 3848 :: 481 :: 8 :: 200 :: 200 :: 200 :: 200 :: 200 :: [])) (by decide +kernel) (by decide +kernel) (by decide +kernel) (by decide +kernel) (by decide +kernel) (by decide +kernel) ?_
  refine gd_go (by decide +kernel) ?_
  refine c_sR (x2 := 0) (v2 := 19) (by decide +kernel) (by decide +kernel) ?_
  refine gd_go (by decide +kernel) ?_
  refine gd_go (by decide +kernel) ?_
  refine c_aN (n2 := 156) (K2 := (10 :: 21 :: 21 :: 21 :: 21 :: 21 :: 23 :: 21 :: 21 :: 21 :: 21 :: 23 :: 21 :: 21 :: 21 :: 21 :: 21 :: 21 :: 21 :: 21 :: 21 :: [])) (N2 := (0 :: 2000 :: 12 :: 12 :: 13 :: 481 :: 481 :: 481 :: 481 :: 481 :: 481 :: 481 :: 3848 :: 481 :: 8 :: 200 :: 200 :: 200 :: 200 :: 200 :: 156 :: [])) (by decide +kernel) (by decide +kernel) (by decide +kernel) (by decide +kernel) (by decide +kernel) (by decide +kernel) ?_
  refine gd_go (by decide +kernel) ?_
  refine c_sR (x2 := 0) (v2 := 20) (by decide +kernel) (by decide +kernel) ?_
  refine gd_go (by decide +kernel) ?_
  refine gd_go (by decide +kernel) ?_
  refine c_aN (n2 := 156) (K2 := (10 :: 21 :: 21 :: 21 :: 21 :: 21 :: 23 :: 21 :: 21 :: 21 :: 21 :: 23 :: 21 :: 21 :: 21 :: 21 :: 21 :: 21 :: 21 :: 21 :: 21 :: 21 :: [])) (N2 := (0 :: 2000 :: 12 :: 12 :: 13 :: 481 :: 481 :: 481 :: 481 :: 481 :: 481 :: 481 :: 3848 :: 481 :: 8 :: 200 :: 200 :: 200 :: 200 :: 200 :: 156 :: 156 :: [])) (by decide +kernel) (by decide +kernel) (by decide +kernel) (by decide +kernel) (by decide +kernel) (by decide +kernel) ?_
  refine gd_go (by decide +kernel) ?_
  refine c_sR (x2 := 0) (v2 := 21) (by decide +kernel) (by decide +kernel) ?_
  unfold fn_X9_init_194
  refine gd_go (by decide +kernel) ?_
  refine gd_go (by decide +kernel) ?_
  refine c_aN (n2 := 156) (K2 := (10 :: 21 :: 21 :: 21 :: 21 :: 21 :: 23 :: 21 :: 21 :: 21 :: 21 :: 23 :: 21 :: 21 :: 21 :: 21 :: 21 :: 21 :: 21 :: 21 :: 21 :: 21 :: 21 :: [])) (N2 := (0 :: 2000 :: 12 :: 12 :: 13 :: 481 :: 481 :: 481 :: 481 :: 481 :: 481 :: 481 :: 3848 :: 481 :: 8 :: 200 :: 200 :: 200 :: 200 :: 200 :: 156 :: 156 :: 156 :: [])) (by decide +kernel) (by decide +kernel) (by decide +kernel) (by decide +kernel) (by decide +kernel) (by decide +kernel) ?_
  refine gd_go (by decide +kernel) ?_
  refine c_sR (x2 := 0) (v2 := 22) (by decide +kernel) (by decide +kernel) ?_
  refine gd_go (by decide +kernel) ?_
  refine gd_go (by decide +kernel) ?_
  refine c_aN (n2 := 72) (K2 := (10 :: 21 :: 21 :: 21 :: 21 :: 21 :: 23 :: 21 :: 21 :: 21 :: 21 :: 23 :: 21 :: 21 :: 21 :: 21 :: 21 :: 21 :: 21 :: 21 :: 21 :: 21 :: 21 :: 21 :: [])) (N2 := (0 :: 2000 :: 12 :: 12 :: 13 :: 481 :: 481 :: 481 :: 481 :: 481 :: 481 :: 481 :: 3848 :: 481 :: 8 :: 200 :: 200 :: 200 :: 200 :: 200 :: 156 :: 156 :: 156 :: 72 :: [])) (by decide +kernel) (by decide +kernel) (by decide +kernel) (by decide +kernel) (by decide +kernel) (by decide +kernel) ?_
  refine gd_go (by decide +kernel) ?_
  refine c_sR (x2 := 0) (v2 := 23) (by decide +kernel) (by decide +kernel) ?_
  refine gd_go (by decide +kernel) ?_
  refine gd_go (by decide +kernel) ?_
  refine c_aN (n2 := 8) (K2 := (10 :: 21 :: 21 :: 21 :: 21 :: 21 :: 23 :: 21 :: 21 :: 21 :: 21 :: 23 :: 21 :: 21 :: 21 :: 21 :: 21 :: 21 :: 21 :: 21 :: 21 :: 21 :: 21 :: 21 :: 21 :: [])) (N2 := (0 :: 2000 :: 12 :: 12 :: 13 :: 481 :: 481 :: 481 :: 481 :: 481 :: 481 :: 481 :: 3848 :: 481 :: 8 :: 200 :: 200 :: 200 :: 200 :: 200 :: 156 :: 156 :: 156 :: 72 :: 8 :: [])) (by decide +kernel) (by decide +kernel) (by decide +kernel) (by decide +kernel) (by decide +kernel) (by decide +kernel) ?_
  refine gd_go (by decide +kernel) ?_
  refine c_sR (x2 := 0) (v2 := 24) (by decide +kernel) (by decide +kernel) ?_
  unfold fn_X9_init_219
  refine gd_go (by decide +kernel) ?_
  refine gd_go (by decide +kernel) ?_
  refine c_aN (n2 := 8) (K2 := (10 :: 21 :: 21 :: 21 :: 21 :: 21 :: 23 :: 21 :: 21 :: 21 :: 21 :: 23 :: 21 :: 21 :: 21 :: 21 :: 21 :: 21 :: 21 :: 21 :: 21 :: 21 :: 21 :: 21 :: 21 :: 21 :: [])) (N2 := (0 :: 2000 :: 12 :: 12 :: 13 :: 481 :: 481 :: 481 :: 481 :: 481 :: 481 :: 481 :: 3848 :: 481 :: 8 :: 200 :: 200 :: 200 :: 200 :: 200 :: 156 :: 156 :: 156 :: 72 :: 8 :: 8 :: [])) (by decide +kernel) (by decide +kernel) (by decide +kernel) (by decide +kernel) (by decide +kernel) (by decide +kernel) ?_
  refine gd_go (by decide +kernel) ?_
  refine c_sR (x2 := 0) (v2 := 25) (by decide +kernel) (by decide +kernel) ?_
  refine gd_go (by decide +kernel) ?_
  refine gd_go (by decide +kernel) ?_
  refine c_aN (n2 := 8) (K2 := (10 :: 21 :: 21 :: 21 :: 21 :: 21 :: 23 :: 21 :: 21 :: 21 :: 21 :: 23 :: 21 :: 21 :: 21 :: 21 :: 21 :: 21 :: 21 :: 21 :: 21 :: 21 :: 21 :: 21 :: 21 :: 21 :: 21 :: [])) (N2 := (0 :: 2000 :: 12 :: 12 :: 13 :: 481 :: 481 :: 481 :: 481 :: 481 :: 481 :: 481 :: 3848 :: 481 :: 8 :: 200 :: 200 :: 200 :: 200 :: 200 :: 156 :: 156 :: 156 :: 72 :: 8 :: 8 :: 8 :: [])) (by decide +kernel) (by decide +kernel) (by decide +kernel) (by decide +kernel) (by decide +kernel) (by decide +kernel) ?_
  refine gd_go (by decide +kernel) ?_
  refine c_sR (x2 := 0) (v2 := 26) (by decide +kernel) (by decide +kernel) ?_
  refine gd_go (by decide +kernel) ?_
  refine gd_go (by decide +kernel) ?_
  refine c_aN (n2 := 8) (K2 := (10 :: 21 :: 21 :: 21 :: 21 :: 21 :: 23 :: 21 :: 21 :: 21 :: 21 :: 23 :: 21 :: 21 :: 21 :: 21 :: 21 :: 21 :: 21 :: 21 :: 21 :: 21 :: 21 :: 21 :: 21 :: 21 :: 21 :: 21 :: [])) (N2 := (0 :: 2000 :: 12 :: 12 :: 13 :: 481 :: 481 :: 481 :: 481 :: 481 :: 481 :: 481 :: 3848 :: 481 :: 8 :: 200 :: 200 :: 200 :: 200 :: 200 :: 156 :: 156 :: 156 :: 72 :: 8 :: 8 :: 8 :: 8 :: [])) (by decide +kernel) (by decide +kernel) (by decide +kernel) (by decide +kernel) (by decide +kernel) (by decide +kernel) ?_
  refine gd_go (by decide +kernel) ?_
  refine c_sR (x2 := 0) (v2 := 27) (by decide +kernel) (by decide +kernel) ?_
  unfold fn_X9_init_243
  refine gd_go (by decide +kernel) ?_
  refine gd_go (by decide +kernel) ?_
  refine c_aN (n2 := 8) (K2 := (10 :: 21 :: 21 :: 21 :: 21 :: 21 :: 23 :: 21 :: 21 :: 21 :: 21 :: 23 :: 21 :: 21 :: 21 :: 21 :: 21 :: 21 :: 21 :: 21 :: 21 :: 21 :: 21 :: 21 :: 21 :: 21 :: 21 :: 21 :: 21 :: [])) (N2 := (0 :: 2000 :: 12 :: 12 :: 13 :: 481 :: 481 :: 481 :: 481 :: 481 :: 481 :: 481 :: 3848 :: 481 :: 8 :: 200 :: 200 :: 200 :: 200 :: 200 :: 156 :: 156 :: 156 :: 72 :: 8 :: 8 :: 8 :: 8 :: 8 :: [])) (by decide +kernel) (by decide +kernel) (by decide +kernel) (by decide +kernel) (by decide +kernel) (by decide +kernel) ?_
  refine gd_go (by decide +kernel) ?_
  refine c_sR (x2 := 0) (v2 := 28) (by decide +kernel) (by decide +kernel) ?_
  refine gd_go (by decide +kernel) ?_
  refine gd_go (by decide +kernel) ?_
  refine c_aN (n2 := 8) (K2 := (10 :: 21 :: 21 :: 21 :: 21 :: 21 :: 23 :: 21 :: 21 :: 21 :: 21 :: 23 :: 21 :: 21 :: 21 :: 21 :: 21 :: 21 :: 21 :: 21 :: 21 :: 21 :: 21 :: 21 :: 21 :: 21 :: 21 :: 21 :: 21 :: 21 :: [])) (N2 := (0 :: 2000 :: 12 :: 12 :: 13 :: 481 :: 481 :: 481 :: 481 :: 481 :: 481 :: 481 :: 3848 :: 481 :: 8 :: 200 :: 200 :: 200 :: 200 :: 200 :: 156 :: 156 :: 156 :: 72 :: 8 :: 8 :: 8 :: 8 :: 8 :: 8 :: [])) (by decide +kernel) (by decide +kernel) (by decide +kernel) (by decide +kernel) (by decide +kernel) (by decide +kernel) ?_
  refine gd_go (by decide +kernel) ?_
  refine c_sR (x2 := 0) (v2 := 29) (by decide +kernel) (by decide +kernel) ?_
  refine gd_go (by decide +kernel) ?_
  refine gd_go (by decide +kernel) ?_
  refine c_aN (n2 := 8) (K2 := (10 :: 21 :: 21 :: 21 :: 21 :: 21 :: 23 :: 21 :: 21 :: 21 :: 21 :: 23 :: 21 :: 21 :: 21 :: 21 :: 21 :: 21 :: 21 :: 21 :: 21 :: 21 :: 21 :: 21 :: 21 :: 21 :: 21 :: 21 :: 21 :: 21 :: 21 :: [])) (N2 := (0 :: 2000 :: 12 :: 12 :: 13 :: 481 :: 481 :: 481 :: 481 :: 481 :: 481 :: 481 :: 3848 :: 481 :: 8 :: 200 :: 200 :: 200 :: 200 :: 200 :: 156 :: 156 :: 156 :: 72 :: 8 :: 8 :: 8 :: 8 :: 8 :: 8 :: 8 :: [])) (by decide +kernel) (by decide +kernel) (by decide +kernel) (by decide +kernel) (by decide +kernel) (by decide +kernel) ?_
  refine gd_go (by decide +kernel) ?_
  refine c_sR (x2 := 0) (v2 := 30) (by decide +kernel) (by decide +kernel) ?_
  unfold fn_X9_init_267
  refine gd_go (by decide +kernel) ?_
  refine gd_go (by decide +kernel) ?_
  refine c_aN (n2 := 8) (K2 := (10 :: 21 :: 21 :: 21 :: 21 :: 21 :: 23 :: 21 :: 21 :: 21 :: 21 :: 23 :: 21 :: 21 :: 21 :: 21 :: 21 :: 21 :: 21 :: 21 :: 21 :: 21 :: 21 :: 21 :: 21 :: 21 :: 21 :: 21 :: 21 :: 21 :: 21 :: 21 :: [])) (N2 := (0 :: 2000 :: 12 :: 12 :: 13 :: 481 :: 481 :: 481 :: 481 :: 481 :: 481 :: 481 :: 3848 :: 481 :: 8 :: 200 :: 200 :: 200 :: 200 :: 200 :: 156 :: 156 :: 156 :: 72 :: 8 :: 8 :: 8 :: 8 :: 8 :: 8 :: 8 :: 8 :: [])) (by decide +kernel) (by decide +kernel) (by decide +kernel) (by decide +kernel) (by decide +kernel) (by decide +kernel) ?_
  refine gd_go (by decide +kernel) ?_
  refine c_sR (x2 := 0) (v2 := 31) (by decide +kernel) (by decide +kernel) ?_
  refine gd_go (by decide +kernel) ?_
  refine gd_go (by decide +kernel) ?_
  refine c_aN (n2 := 8) (K2 := (10 :: 21 :: 21 :: 21 :: 21 :: 21 :: 23 :: 21 :: 21 :: 21 :: 21 :: 23 :: 21 :: 21 :: 21 :: 21 :: 21 :: 21 :: 21 :: 21 :: 21 :: 21 :: 21 :: 21 :: 21 :: 21 :: 21 :: 21 :: 21 :: 21 :: 21 :: 21 :: 21 :: [])) (N2 := (0 :: 2000 :: 12 :: 12 :: 13 :: 481 :: 481 :: 481 :: 481 :: 481 :: 481 :: 481 :: 3848 :: 481 :: 8 :: 200 :: 200 :: 200 :: 200 :: 200 :: 156 :: 156 :: 156 :: 72 :: 8 :: 8 :: 8 :: 8 :: 8 :: 8 :: 8 :: 8 :: 8 :: [])) (by decide +kernel) (by decide +kernel) (by decide +kernel) (by decide +kernel) (by decide +kernel) (by decide +kernel) ?_
  refine gd_go (by decide +kernel) ?_
  refine c_sR (x2 := 0) (v2 := 32) (by decide +kernel) (by decide +kernel) ?_
  refine gd_go (by decide +kernel) ?_
  refine gd_go (by decide +kernel) ?_
  refine c_aN (n2 := 8) (K2 := (10 :: 21 :: 21 :: 21 :: 21 :: 21 :: 23 :: 21 :: 21 :: 21 :: 21 :: 23 :: 21 :: 21 :: 21 :: 21 :: 21 :: 21 :: 21 :: 21 :: 21 :: 21 :: 21 :: 21 :: 21 :: 21 :: 21 :: 21 :: 21 :: 21 :: 21 :: 21 :: 21 :: 23 :: [])) (N2 := (0 :: 2000 :: 12 :: 12 :: 13 :: 481 :: 481 :: 481 :: 481 :: 481 :: 481 :: 481 :: 3848 :: 481 :: 8 :: 200 :: 200 :: 200 :: 200 :: 200 :: 156 :: 156 :: 156 :: 72 :: 8 :: 8 :: 8 :: 8 :: 8 :: 8 :: 8 :: 8 :: 8 :: 8 :: [])) (by decide +kernel) (by decide +kernel) (by decide +kernel) (by decide +kernel) (by decide +kernel) (by decide +kernel) ?_
  refine gd_go (by decide +kernel) ?_
  refine c_sR (x2 := 0) (v2 := 33) (by decide +kernel) (by decide +kernel) ?_
  unfold fn_X9_init_291
  refine gd_go (by decide +kernel) ?_
  refine gd_go (by decide +kernel) ?_
  refine c_aN (n2 := 320) (K2 := (10 :: 21 :: 21 :: 21 :: 21 :: 21 :: 23 :: 21 :: 21 :: 21 :: 21 :: 23 :: 21 :: 21 :: 21 :: 21 :: 21 :: 21 :: 21 :: 21 :: 21 :: 21 :: 21 :: 21 :: 21 :: 21 :: 21 :: 21 :: 21 :: 21 :: 21 :: 21 :: 21 :: 23 :: 22 :: [])) (N2 := (0 :: 2000 :: 12 :: 12 :: 13 :: 481 :: 481 :: 481 :: 481 :: 481 :: 481 :: 481 :: 3848 :: 481 :: 8 :: 200 :: 200 :: 200 :: 200 :: 200 :: 156 :: 156 :: 156 :: 72 :: 8 :: 8 :: 8 :: 8 :: 8 :: 8 :: 8 :: 8 :: 8 :: 8 :: 320 :: [])) (by decide +kernel) (by decide +kernel) (by decide +kernel) (by decide +kernel) (by decide +kernel) (by decide +kernel) ?_
  refine gd_go (by decide +kernel) ?_
  refine c_sR (x2 := 0) (v2 := 34) (by decide +kernel) (by decide +kernel) ?_
  refine gd_go (by decide +kernel) ?_
  refine gd_go (by decide +kernel) ?_
  refine c_aN (n2 := 320) (K2 := (10 :: 21 :: 21 :: 21 :: 21 :: 21 :: 23 :: 21 :: 21 :: 21 :: 21 :: 23 :: 21 :: 21 :: 21 :: 21 :: 21 :: 21 :: 21 :: 21 :: 21 :: 21 :: 21 :: 21 :: 21 :: 21 :: 21 :: 21 :: 21 :: 21 :: 21 :: 21 :: 21 :: 23 :: 22 :: 22 :: [])) (N2 := (0 :: 2000 :: 12 :: 12 :: 13 :: 481 :: 481 :: 481 :: 481 :: 481 :: 481 :: 481 :: 3848 :: 481 :: 8 :: 200 :: 200 :: 200 :: 200 :: 200 :: 156 :: 156 :: 156 :: 72 :: 8 :: 8 :: 8 :: 8 :: 8 :: 8 :: 8 :: 8 :: 8 :: 8 :: 320 :: 320 :: [])) (by decide +kernel) (by decide +kernel) (by decide +kernel) (by decide +kernel) (by decide +kernel) (by decide +kernel) ?_
  refine gd_go (by decide +kernel) ?_
  refine c_sR (x2 := 0) (v2 := 35) (by decide +kernel) (by decide +kernel) ?_
  refine gd_go (by decide +kernel) ?_
  refine gd_go (by decide +kernel) ?_
  refine c_aN (n2 := 320) (K2 := (10 :: 21 :: 21 :: 21 :: 21 :: 21 :: 23 :: 21 :: 21 :: 21 :: 21 :: 23 :: 21 :: 21 :: 21 :: 21 :: 21 :: 21 :: 21 :: 21 :: 21 :: 21 :: 21 :: 21 :: 21 :: 21 :: 21 :: 21 :: 21 :: 21 :: 21 :: 21 :: 21 :: 23 :: 22 :: 22 :: 21 :: [])) (N2 := (0 :: 2000 :: 12 :: 12 :: 13 :: 481 :: 481 :: 481 :: 481 :: 481 :: 481 :: 481 :: 3848 :: 481 :: 8 :: 200 :: 200 :: 200 :: 200 :: 200 :: 156 :: 156 :: 156 :: 72 :: 8 :: 8 :: 8 :: 8 :: 8 :: 8 :: 8 :: 8 :: 8 :: 8 :: 320 :: 320 :: 320 :: [])) (by decide +kernel) (by decide +kernel) (by decide +kernel) (by decide +kernel) (by decide +kernel) (by decide +kernel) ?_
  refine gd_go (by decide +kernel) ?_
  refine c_sR (x2 := 0) (v2 := 36) (by decide +kernel) (by decide +kernel) ?_
  unfold fn_X9_init_318
  refine gd_go (by decide +kernel) ?_
  refine gd_go (by decide +kernel) ?_
  refine c_aN (n2 := 320) (K2 := (10 :: 21 :: 21 :: 21 :: 21 :: 21 :: 23 :: 21 :: 21 :: 21 :: 21 :: 23 :: 21 :: 21 :: 21 :: 21 :: 21 :: 21 :: 21 :: 21 :: 21 :: 21 :: 21 :: 21 :: 21 :: 21 :: 21 :: 21 :: 21 :: 21 :: 21 :: 21 :: 21 :: 23 :: 22 :: 22 :: 21 :: 21 :: [])) (N2 := (0 :: 2000 :: 12 :: 12 :: 13 :: 481 :: 481 :: 481 :: 481 :: 481 :: 481 :: 481 :: 3848 :: 481 :: 8 :: 200 :: 200 :: 200 :: 200 :: 200 :: 156 :: 156 :: 156 :: 72 :: 8 :: 8 :: 8 :: 8 :: 8 :: 8 :: 8 :: 8 :: 8 :: 8 :: 320 :: 320 :: 320 :: 320 :: [])) (by decide +kernel) (by decide +kernel) (by decide +kernel) (by decide +kernel) (by decide +kernel) (by decide +kernel) ?_
  refine gd_go (by decide +kernel) ?_
  refine c_sR (x2 := 0) (v2 := 37) (by decide +kernel) (by decide +kernel) ?_
  refine gd_go (by decide +kernel) ?_
  refine gd_go (by decide +kernel) ?_
  refine c_aN (n2 := 320) (K2 := (10 :: 21 :: 21 :: 21 :: 21 :: 21 :: 23 :: 21 :: 21 :: 21 :: 21 :: 23 :: 21 :: 21 :: 21 :: 21 :: 21 :: 21 :: 21 :: 21 :: 21 :: 21 :: 21 :: 21 :: 21 :: 21 :: 21 :: 21 :: 21 :: 21 :: 21 :: 21 :: 21 :: 23 :: 22 :: 22 :: 21 :: 21 :: 22 :: [])) (N2 := (0 :: 2000 :: 12 :: 12 :: 13 :: 481 :: 481 :: 481 :: 481 :: 481 :: 481 :: 481 :: 3848 :: 481 :: 8 :: 200 :: 200 :: 200 :: 200 :: 200 :: 156 :: 156 :: 156 :: 72 :: 8 :: 8 :: 8 :: 8 :: 8 :: 8 :: 8 :: 8 :: 8 :: 8 :: 320 :: 320 :: 320 :: 320 :: 320 :: [])) (by decide +kernel) (by decide +kernel) (by decide +kernel) (by decide +kernel) (by decide +kernel) (by decide +kernel) ?_
  refine gd_go (by decide +kernel) ?_
  refine c_sR (x2 := 0) (v2 := 38) (by decide +kernel) (by decide +kernel) ?_
  refine gd_go (by decide +kernel) ?_
  refine gd_go (by decide +kernel) ?_
  refine c_aN (n2 := 112) (K2 := (10 :: 21 :: 21 :: 21 :: 21 :: 21 :: 23 :: 21 :: 21 :: 21 :: 21 :: 23 :: 21 :: 21 :: 21 :: 21 :: 21 :: 21 :: 21 :: 21 :: 21 :: 21 :: 21 :: 21 :: 21 :: 21 :: 21 :: 21 :: 21 :: 21 :: 21 :: 21 :: 21 :: 23 :: 22 :: 22 :: 21 :: 21 :: 22 :: 21 :: [])) (N2 := (0 :: 2000 :: 12 :: 12 :: 13 :: 481 :: 481 :: 481 :: 481 :: 481 :: 481 :: 481 :: 3848 :: 481 :: 8 :: 200 :: 200 :: 200 :: 200 :: 200 :: 156 :: 156 :: 156 :: 72 :: 8 :: 8 :: 8 :: 8 :: 8 :: 8 :: 8 :: 8 :: 8 :: 8 :: 320 :: 320 :: 320 :: 320 :: 320 :: 112 :: [])) (by decide +kernel) (by decide +kernel) (by decide +kernel) (by decide +kernel) (by decide +kernel) (by decide +kernel) ?_
  refine gd_go (by decide +kernel) ?_
  refine c_sR (x2 := 0) (v2 := 39) (by decide +kernel) (by decide +kernel) ?_
  unfold fn_X9_init_344
  refine gd_go (by decide +kernel) ?_
  refine gd_go (by decide +kernel) ?_
  refine c_aN (n2 := 624) (K2 := (10 :: 21 :: 21 :: 21 :: 21 :: 21 :: 23 :: 21 :: 21 :: 21 :: 21 :: 23 :: 21 :: 21 :: 21 :: 21 :: 21 :: 21 :: 21 :: 21 :: 21 :: 21 :: 21 :: 21 :: 21 :: 21 :: 21 :: 21 :: 21 :: 21 :: 21 :: 21 :: 21 :: 23 :: 22 :: 22 :: 21 :: 21 :: 22 :: 21 :: 21 :: [])) (N2 := (0 :: 2000 :: 12 :: 12 :: 13 :: 481 :: 481 :: 481 :: 481 :: 481 :: 481 :: 481 :: 3848 :: 481 :: 8 :: 200 :: 200 :: 200 :: 200 :: 200 :: 156 :: 156 :: 156 :: 72 :: 8 :: 8 :: 8 :: 8 :: 8 :: 8 :: 8 :: 8 :: 8 :: 8 :: 320 :: 320 :: 320 :: 320 :: 320 :: 112 :: 624 :: [])) (by decide +kernel) (by decide +kernel) (by decide +kernel) (by decide +kernel) (by decide +kernel) (by decide +kernel) ?_
  refine gd_go (by decide +kernel) ?_
  refine c_sR (x2 := 0) (v2 := 40) (by decide +kernel) (by decide +kernel) ?_
  rfl
def iM : List (Nat × Nat × Int32) := ((0, 25, -1) :: [])
def rM : List (Nat × Nat × Nat) := ((0, 58, 40) :: (0, 56, 39) :: (0, 53, 38) :: (0, 52, 37) :: (0, 51, 36) :: (0, 50, 35) :: (0, 49, 34) :: (0, 48, 33) :: (0, 47, 32) :: (0, 46, 31) :: (0, 45, 30) :: (0, 44, 29) :: (0, 43, 28) :: (0, 42, 27) :: (0, 41, 26) :: (0, 40, 25) :: (0, 39, 24) :: (0, 38, 23) :: (0, 37, 22) :: (0, 36, 21) :: (0, 35, 20) :: (0, 33, 19) :: (0, 32, 18) :: (0, 31, 17) :: (0, 30, 16) :: (0, 29, 15) :: (0, 27, 14) :: (0, 16, 13) :: (0, 15, 12) :: (0, 14, 11) :: (0, 13, 10) :: (0, 12, 9) :: (0, 11, 8) :: (0, 10, 7) :: (0, 9, 6) :: (0, 8, 5) :: (0, 6, 4) :: (0, 5, 3) :: (0, 4, 2) :: (0, 1, 1) :: [])
def kM : List Nat := (10 :: 21 :: 21 :: 21 :: 21 :: 21 :: 23 :: 21 :: 21 :: 21 :: 21 :: 23 :: 21 :: 21 :: 21 :: 21 :: 21 :: 21 :: 21 :: 21 :: 21 :: 21 :: 21 :: 21 :: 21 :: 21 :: 21 :: 21 :: 21 :: 21 :: 21 :: 21 :: 21 :: 23 :: 22 :: 22 :: 21 :: 21 :: 22 :: 21 :: 21 :: [])
def nM : List Nat := (0 :: 2000 :: 12 :: 12 :: 13 :: 481 :: 481 :: 481 :: 481 :: 481 :: 481 :: 481 :: 3848 :: 481 :: 8 :: 200 :: 200 :: 200 :: 200 :: 200 :: 156 :: 156 :: 156 :: 72 :: 8 :: 8 :: 8 :: 8 :: 8 :: 8 :: 8 :: 8 :: 8 :: 8 :: 320 :: 320 :: 320 :: 320 :: 320 :: 112 :: 624 :: [])
theorem madeM : fn_X9_init 0 (aN hS0 10 0) = some (mkS iM rM kM nM) := ctor9
