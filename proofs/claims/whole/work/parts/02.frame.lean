/-! my own heap: ints, references (by number), longs, kinds, lengths, how many numbers are used; number c is the cell B + c -/
abbrev HS : Type := (Nat → Nat → Int32) × (Nat → Nat → Option Nat) × (Nat → Nat → Int64) × (Nat → Nat) × (Nat → Nat) × Nat
def gI (S : HS) : Nat → Nat → Int32 := S.1
def gR (S : HS) : Nat → Nat → Option Nat := S.2.1
def gJ (S : HS) : Nat → Nat → Int64 := S.2.2.1
def gK (S : HS) : Nat → Nat := S.2.2.2.1
def gN (S : HS) : Nat → Nat := S.2.2.2.2.1
def gZ (S : HS) : Nat := S.2.2.2.2.2
def up2 {α : Type} (f : Nat → Nat → α) (c k : Nat) (v : α) : Nat → Nat → α := fun b j => if b = c ∧ j = k then v else f b j
def sI (S : HS) (c k : Nat) (v : Int32) : HS := (up2 (gI S) c k v, S.2)
def sR (S : HS) (c k : Nat) (v : Option Nat) : HS := (S.1, up2 (gR S) c k v, S.2.2)
def sJ (S : HS) (c k : Nat) (v : Int64) : HS := (S.1, S.2.1, up2 (gJ S) c k v, S.2.2.2)
theorem gI_sI (S : HS) (c k : Nat) (v : Int32) (b j : Nat) : gI (sI S c k v) b j = if b = c ∧ j = k then v else gI S b j := rfl
theorem gI_sR (S : HS) (c k : Nat) (v : Option Nat) : gI (sR S c k v) = gI S := rfl
theorem gI_sJ (S : HS) (c k : Nat) (v : Int64) : gI (sJ S c k v) = gI S := rfl
theorem gR_sI (S : HS) (c k : Nat) (v : Int32) : gR (sI S c k v) = gR S := rfl
theorem gR_sR (S : HS) (c k : Nat) (v : Option Nat) (b j : Nat) : gR (sR S c k v) b j = if b = c ∧ j = k then v else gR S b j := rfl
theorem gR_sJ (S : HS) (c k : Nat) (v : Int64) : gR (sJ S c k v) = gR S := rfl
theorem gJ_sI (S : HS) (c k : Nat) (v : Int32) : gJ (sI S c k v) = gJ S := rfl
theorem gJ_sR (S : HS) (c k : Nat) (v : Option Nat) : gJ (sR S c k v) = gJ S := rfl
theorem gJ_sJ (S : HS) (c k : Nat) (v : Int64) (b j : Nat) : gJ (sJ S c k v) b j = if b = c ∧ j = k then v else gJ S b j := rfl
theorem gK_sI (S : HS) (c k : Nat) (v : Int32) : gK (sI S c k v) = gK S := rfl
theorem gK_sR (S : HS) (c k : Nat) (v : Option Nat) : gK (sR S c k v) = gK S := rfl
theorem gK_sJ (S : HS) (c k : Nat) (v : Int64) : gK (sJ S c k v) = gK S := rfl
theorem gN_sI (S : HS) (c k : Nat) (v : Int32) : gN (sI S c k v) = gN S := rfl
theorem gN_sR (S : HS) (c k : Nat) (v : Option Nat) : gN (sR S c k v) = gN S := rfl
theorem gN_sJ (S : HS) (c k : Nat) (v : Int64) : gN (sJ S c k v) = gN S := rfl
theorem gZ_sI (S : HS) (c k : Nat) (v : Int32) : gZ (sI S c k v) = gZ S := rfl
theorem gZ_sR (S : HS) (c k : Nat) (v : Option Nat) : gZ (sR S c k v) = gZ S := rfl
theorem gZ_sJ (S : HS) (c k : Nat) (v : Int64) : gZ (sJ S c k v) = gZ S := rfl
/-! the words that the methods as functions are made of -/
noncomputable def gd {α : Type} (c : Prop) (x : Option α) : Option α := @ite _ c (Classical.propDecidable c) x none
noncomputable def cd {β : Type} (c : Prop) (a b : β) : β := @ite _ c (Classical.propDecidable c) a b
def bn {α β : Type} (o : Option α) (k : α → Option β) : Option β := match o with
  | none => none
  | some a => k a
def cs {β : Type} (o : Option Nat) (a : β) (b : Nat → β) : β := match o with
  | none => a
  | some c => b c
theorem cd_t {β : Type} {c : Prop} {a b : β} (h : c) : cd c a b = a := by unfold cd; rw [if_pos h]
theorem cd_f {β : Type} {c : Prop} {a b : β} (h : ¬ c) : cd c a b = b := by unfold cd; rw [if_neg h]
theorem gd_t {α : Type} {c : Prop} {x : Option α} (h : c) : gd c x = x := by unfold gd; rw [if_pos h]
theorem gd_ok {α : Type} {c : Prop} {x : Option α} {y : α} (h : gd c x = some y) : c ∧ x = some y := by
  by_cases hc : c
  · rw [gd_t hc] at h; exact ⟨hc, h⟩
  · unfold gd at h; rw [if_neg hc] at h; cases h
theorem bn_ok {α β : Type} {o : Option α} {k : α → Option β} {y : β} (h : bn o k = some y) : ∃ a, o = some a ∧ k a = some y := by
  cases o with
  | none => cases h
  | some a => exact ⟨a, rfl, h⟩
theorem bn_some {α β : Type} (a : α) (k : α → Option β) : bn (some a) k = k a := rfl
theorem bn_of {α β : Type} {o : Option α} {a : α} {k : α → Option β} (h : o = some a) : bn o k = k a := by rw [h]; rfl
theorem cs_none {β : Type} (a : β) (b : Nat → β) : cs none a b = a := rfl
theorem cs_some {β : Type} (c : Nat) (a : β) (b : Nat → β) : cs (some c) a b = b c := rfl
theorem cd_tk {β : Type} {c : Prop} {a b y : β} (h : c) (hf : cd c a b = y) : a = y := by rw [cd_t h] at hf; exact hf
theorem cd_fk {β : Type} {c : Prop} {a b y : β} (h : ¬ c) (hf : cd c a b = y) : b = y := by rw [cd_f h] at hf; exact hf
def bn2 {α β γ : Type} (o : Option (α × γ)) (k : α → γ → Option β) : Option β := match o with
  | none => none
  | some (a, b) => k a b
theorem bn2_ok {α β γ : Type} {o : Option (α × γ)} {k : α → γ → Option β} {y : β} (h : bn2 o k = some y) : ∃ a b, o = some (a, b) ∧ k a b = some y := by
  cases o with
  | none => cases h
  | some a => exact ⟨a.1, a.2, rfl, h⟩
theorem bn2_of {α β γ : Type} {o : Option (α × γ)} {a : α} {b : γ} {k : α → γ → Option β} (h : o = some (a, b)) : bn2 o k = k a b := by rw [h]; rfl
def jmin (x y : Int32) : Int32 := if y < x then y else x
def jmax (x y : Int32) : Int32 := if x < y then y else x
def jabs (x : Int32) : Int32 := if 0 ≤ x then x else 0 - x
theorem tsw_out {x : Int32} {lo : Int} (n : Nat) (h : ∀ j : Nat, j ≤ n → ¬ x.toInt = lo + j) : x.toInt < lo ∨ lo + n < x.toInt := by
  by_cases h1 : x.toInt < lo
  · exact Or.inl h1
  · refine Or.inr ?_
    have h2 : ¬ x.toInt ≤ lo + n := by
      intro h3
      exact h (x.toInt - lo).toNat (by omega) (by omega)
    omega
def hFuel : Nat := 5000
theorem zb_n {x : Int32} (h : x = 0 ∨ x = 1) : narrow .boolean (.int x) = .int x := by rcases h with rfl | rfl <;> rfl
theorem zb_f {x : Int32} (h : x = 0 ∨ x = 1) : fits .boolean (.int x) = true := by rcases h with rfl | rfl <;> rfl
theorem zb_v {x : Int32} (h : x = 0 ∨ x = 1) : vp_nar .boolean x = x := by rcases h with rfl | rfl <;> rfl
/-! which fields of a class are references; the cell of a number -/
def ktl : Nat → List Nat := fun k => match k with
  | 0 => [0, 2, 0]
  | 1 => [0, 0, 0, 1]
  | 2 => [1, 0, 0, 0, 0, 0, 0]
  | 3 => [0, 0, 1, 0, 0, 0, 0, 0, 0, 0]
  | 4 => [0, 0, 0, 0, 0]
  | 5 => [1, 1, 0, 0, 0, 0, 0, 0]
  | 6 => [0, 1, 0]
  | 7 => [1, 1, 1]
  | 8 => [1, 1, 1, 1, 1, 1, 1, 0, 0, 0, 0, 0, 0, 0, 0, 0, 0, 0]
  | 9 => [1, 1, 1, 1, 1, 1, 1, 1, 1, 1, 1, 1, 1, 0, 0, 0, 0, 0]
  | 10 => [0, 1, 0, 0, 1, 1, 1, 0, 1, 1, 1, 1, 1, 1, 1, 1, 1, 0, 0, 0, 0, 0, 0, 0, 0, 0, 0, 1, 0, 1, 1, 1, 1, 1, 0, 1, 1, 1, 1, 1, 1, 1, 1, 1, 1, 1, 1, 1, 1, 1, 1, 1, 1, 1, 0, 0, 1, 0, 1, 0]
  | 11 => [0, 1, 0]
  | _ => []
/-- 0: an int; 1: a reference or null; 2: a reference, or the old empty array, whose address is cy 99 -/
def hVl (B : Nat) (cy : Nat → ClassId) (S : HS) (t : Nat) (c k : Nat) : Value := if t = 0 then .int (gI S c k) else if t = 1 then va_rf ((gR S c k).map (B + ·)) else .ref ((gR S c k).elim (cy 99) (B + ·))
def hFs (B : Nat) (cy : Nat → ClassId) (S : HS) (c : Nat) (ts : List Nat) : List Value := (List.range ts.length).map (fun k => hVl B cy S (ts.getD k 0) c k)
/-- the number of a kind's class; 11: an ArrayList that is being made -/
def kcl (κ : Nat) : Nat := if κ = 11 then 0 else κ
def hEn (B : Nat) (cy : Nat → ClassId) (S : HS) (c : Nat) : va_E :=
  if gK S c < 20 then .inr (kcl (gK S c), hFs B cy S c (ktl (gK S c)))
  else if gK S c = 22 then .inl (cy 22, gN S c, .inr (.inl (gJ S c)))
  else if gK S c < 24 then .inl (cy (gK S c), gN S c, .inl (gI S c))
  else .inl (cy (gK S c), gN S c, .inr (.inr (.inr (.inr (fun j => (gR S c j).map (B + ·))))))
def hLv (S : HS) : List Nat := (List.range (gZ S)).filter (fun c => gK S c ≠ 99)
def hWs (B : Nat) (cy : Nat → ClassId) (S : HS) : va_W := (hLv S).map (fun c => (B + c, hEn B cy S c))
def hFr (S : HS) : Prop := ∀ c, gZ S ≤ c → gK S c = 99
theorem hLv_mem {S : HS} {c : Nat} : c ∈ hLv S ↔ c < gZ S ∧ gK S c ≠ 99 := by simp [hLv]
theorem hLv_nd (S : HS) : (hLv S).Nodup := List.Pairwise.filter _ List.nodup_range
theorem hFr_in {S : HS} (h : hFr S) {c κ : Nat} (hk : gK S c = κ) (h9 : κ ≠ 99) : c ∈ hLv S := by
  refine hLv_mem.mpr ⟨?_, by rw [hk]; exact h9⟩
  rcases Nat.lt_or_ge c (gZ S) with q | q
  · exact q
  · exact absurd ((h c q).symm.trans hk).symm h9
theorem hWs_get {B : Nat} {cy : Nat → ClassId} {S : HS} {c : Nat} (h : c ∈ hLv S) : ∃ k : Nat, (hWs B cy S)[k]? = some (B + c, hEn B cy S c) := by
  obtain ⟨i, hi⟩ := List.getElem?_of_mem h
  exact ⟨i, by unfold hWs; rw [List.getElem?_map, hi]; rfl⟩
theorem hWs_len (B : Nat) (cy : Nat → ClassId) (S : HS) : (hWs B cy S).length = (hLv S).length := by unfold hWs; rw [List.length_map]
theorem hWs_set {B : Nat} {cy : Nat → ClassId} {S S' : HS} {c k : Nat} (hk : (hWs B cy S)[k]? = some (B + c, hEn B cy S c)) (hL : hLv S' = hLv S) (hne : ∀ b, b ≠ c → hEn B cy S' b = hEn B cy S b) : (hWs B cy S).set k (B + c, hEn B cy S' c) = hWs B cy S' := by
  have hk2 : (hLv S)[k]? = some c := by
    unfold hWs at hk
    rw [List.getElem?_map] at hk
    cases hb : (hLv S)[k]? with
    | none => rw [hb] at hk; cases hk
    | some b =>
      rw [hb] at hk
      have h1 := congrArg Prod.fst (Option.some.inj hk)
      have h2 : B + b = B + c := h1
      rw [show b = c by omega]
  have hlt := (List.getElem?_eq_some_iff.mp hk).1
  apply List.ext_getElem?
  intro j
  by_cases hj : j = k
  · subst hj
    rw [List.getElem?_set_self hlt]
    unfold hWs
    rw [List.getElem?_map, hL, hk2]
    rfl
  · rw [List.getElem?_set_ne (Ne.symm hj)]
    unfold hWs
    rw [List.getElem?_map, List.getElem?_map, hL]
    cases hb : (hLv S)[j]? with
    | none => rfl
    | some b =>
      have hbc : b ≠ c := by
        intro e
        subst e
        have h1 := (List.getElem?_eq_some_iff.mp hb).1
        have := (List.getElem?_inj h1 (hLv_nd S)).mp (hb.trans hk2.symm)
        exact hj this
      simp [hne b hbc]
theorem hFs_get {B : Nat} {cy : Nat → ClassId} {S : HS} {c : Nat} {ts : List Nat} {k : Nat} {t : Nat} (hk : ts[k]? = some t) : (hFs B cy S c ts)[k]? = some (hVl B cy S t c k) := by
  have hl := (List.getElem?_eq_some_iff.mp hk).1
  unfold hFs
  rw [List.getElem?_map, List.getElem?_range hl]
  simp [List.getD_eq_getElem?_getD, hk]
theorem hFs_len {B : Nat} {cy : Nat → ClassId} {S : HS} {c : Nat} {ts : List Nat} : (hFs B cy S c ts).length = ts.length := by unfold hFs; simp
theorem hFs_set {B : Nat} {cy : Nat → ClassId} {S S' : HS} {c : Nat} {ts : List Nat} {k : Nat} {t : Nat} (hk : ts[k]? = some t) (h1 : ∀ j t', j ≠ k → hVl B cy S' t' c j = hVl B cy S t' c j) : (hFs B cy S c ts).set k (hVl B cy S' t c k) = hFs B cy S' c ts := by
  have hl := (List.getElem?_eq_some_iff.mp hk).1
  apply List.ext_getElem?
  intro j
  by_cases hj : j = k
  · subst hj
    rw [List.getElem?_set_self (by rw [hFs_len]; exact hl), hFs_get hk]
  · rw [List.getElem?_set_ne (Ne.symm hj)]
    cases hb : ts[j]? with
    | none =>
      have h2 : ts.length ≤ j := List.getElem?_eq_none_iff.mp hb
      rw [List.getElem?_eq_none_iff.mpr (by rw [hFs_len]; exact h2), List.getElem?_eq_none_iff.mpr (by rw [hFs_len]; exact h2)]
    | some t' => rw [hFs_get hb, hFs_get hb, h1 j t' hj]
theorem hEn_obj {B : Nat} {cy : Nat → ClassId} {S : HS} {c κ : Nat} (hk : gK S c = κ) (h : κ < 20) : hEn B cy S c = .inr (kcl κ, hFs B cy S c (ktl κ)) := by
  unfold hEn
  rw [hk, if_pos h]
theorem hEn_int {B : Nat} {cy : Nat → ClassId} {S : HS} {c κ : Nat} (hk : gK S c = κ) (h : κ = 20 ∨ κ = 21 ∨ κ = 23) : hEn B cy S c = .inl (cy κ, gN S c, .inl (gI S c)) := by
  unfold hEn
  rw [hk, if_neg (by omega), if_neg (by omega), if_pos (by omega)]
theorem hEn_long {B : Nat} {cy : Nat → ClassId} {S : HS} {c : Nat} (hk : gK S c = 22) : hEn B cy S c = .inl (cy 22, gN S c, .inr (.inl (gJ S c))) := by
  unfold hEn
  rw [hk, if_neg (by omega), if_pos rfl]
theorem hEn_ref {B : Nat} {cy : Nat → ClassId} {S : HS} {c κ : Nat} (hk : gK S c = κ) (h : 24 ≤ κ) : hEn B cy S c = .inl (cy κ, gN S c, .inr (.inr (.inr (.inr (fun j => (gR S c j).map (B + ·)))))) := by
  unfold hEn
  rw [hk, if_neg (by omega), if_neg (by omega), if_neg (by omega)]
theorem hEn_sI_ne {B : Nat} {cy : Nat → ClassId} {S : HS} {c k b : Nat} {v : Int32} (h : b ≠ c) : hEn B cy (sI S c k v) b = hEn B cy S b := by
  have e : gI (sI S c k v) b = gI S b := by funext j; rw [gI_sI, if_neg (fun q => h q.1)]
  have e2 : ∀ ts, hFs B cy (sI S c k v) b ts = hFs B cy S b ts := by
    intro ts
    unfold hFs
    congr 1
    funext j
    unfold hVl
    rw [e, gR_sI]
  unfold hEn
  rw [e, e2, gK_sI, gN_sI, gJ_sI, gR_sI]
theorem hEn_sR_ne {B : Nat} {cy : Nat → ClassId} {S : HS} {c k b : Nat} {v : Option Nat} (h : b ≠ c) : hEn B cy (sR S c k v) b = hEn B cy S b := by
  have e : gR (sR S c k v) b = gR S b := by funext j; rw [gR_sR, if_neg (fun q => h q.1)]
  have e2 : ∀ ts, hFs B cy (sR S c k v) b ts = hFs B cy S b ts := by
    intro ts
    unfold hFs
    congr 1
    funext j
    unfold hVl
    rw [e, gI_sR]
  unfold hEn
  rw [e, e2, gK_sR, gN_sR, gJ_sR, gI_sR]
theorem hEn_sJ_ne {B : Nat} {cy : Nat → ClassId} {S : HS} {c k b : Nat} {v : Int64} (h : b ≠ c) : hEn B cy (sJ S c k v) b = hEn B cy S b := by
  have e : gJ (sJ S c k v) b = gJ S b := by funext j; rw [gJ_sJ, if_neg (fun q => h q.1)]
  have e2 : ∀ ts, hFs B cy (sJ S c k v) b ts = hFs B cy S b ts := by
    intro ts
    unfold hFs
    congr 1
  unfold hEn
  rw [e, e2, gK_sJ, gN_sJ, gR_sJ, gI_sJ]
theorem hLv_eq {S S' : HS} (h1 : gK S' = gK S) (h2 : gZ S' = gZ S) : hLv S' = hLv S := by unfold hLv; rw [h1, h2]
/-! array classes, what is old, the context of a method, the world -/
def hTy (cy : Nat → ClassId) : List (ClassId × FieldType) := [(cy 20, .byte), (cy 21, .int), (cy 22, .long), (cy 23, .boolean), (cy 24, .object "PayScales$Line"), (cy 25, .object "java/lang/Object")]
def hSlen : List Nat := [4, 5, 5, 4, 3, 4, 3, 4, 40]
def hSbyt : List (List Int32) := [[116, 101, 115, 116], [103, 114, 97, 100, 101], [115, 99, 97, 108, 101], [115, 116, 101, 112], [103, 97, 112], [112, 108, 117, 115], [101, 110, 100], [102, 114, 111, 109], [116, 101, 115, 116, 32, 103, 114, 97, 100, 101, 32, 115, 99, 97, 108, 101, 32, 115, 116, 101, 112, 32, 103, 97, 112, 32, 112, 108, 117, 115, 32, 101, 110, 100, 32, 102, 114, 111, 109, 32]]
def hSown : List String := ["PayScales$Reader", "PayScales$Reader", "PayScales$Reader", "PayScales$Reader", "PayScales$Reader", "PayScales$Reader", "PayScales$Reader", "PayScales$Reader", "PayScalesModel"]
def hSidx : List Nat := [156, 158, 160, 162, 164, 166, 168, 146, 172]
def hStx : List String := ["test", "grade", "scale", "step", "gap", "plus", "end", "from", "test grade scale step gap plus end from "]
def hOldN (U : State) : Prop := va_AO "java/lang/Object" U ∧ va_AO "PayScales$Line" U ∧ va_Nw (.methodLinkNest "PayScales" 38 ⟨"PayScales$Rules", "<init>", "()V"⟩ "PayScales") U ∧ va_Nw (.methodLinkNest "PayScales$Walk" 11 ⟨"PayScales$Appraisal", "<init>", "()V"⟩ "PayScales") U ∧ va_Nw (.castable "PayScales$Line" "java/lang/Object") U ∧ va_Nw (.castable "PayScales$Agreement" "java/lang/Object") U ∧ va_Nw (.castable "PayScales$Note" "java/lang/Object") U ∧ va_Dc U
theorem hOldN.warm {s U : State} (hW : s.WarmedH U.vm) (h : hOldN s) : hOldN U := ⟨h.1.moved hW.alike, h.2.1.moved hW.alike, h.2.2.1.warmM hW, h.2.2.2.1.warmM hW, h.2.2.2.2.1.warmC hW, h.2.2.2.2.2.1.warmC hW, h.2.2.2.2.2.2.1.warmC hW, h.2.2.2.2.2.2.2.moved hW.alike⟩
theorem hOldN.same {s U : State} (hW : U.vm = s.vm) (h : hOldN s) : hOldN U := by
  have q : s.vm.Alike U.vm := by rw [hW]; exact Vm.Alike.refl s.vm
  exact ⟨h.1.moved q, h.2.1.moved q, va_Nw.same rfl hW.symm h.2.2.1, va_Nw.same rfl hW.symm h.2.2.2.1, va_Nw.same rfl hW.symm h.2.2.2.2.1, va_Nw.same rfl hW.symm h.2.2.2.2.2.1, va_Nw.same rfl hW.symm h.2.2.2.2.2.2.1, h.2.2.2.2.2.2.2.moved q⟩
def hOld (A : Nat → Prop) (ad av : Nat → Nat) (U : State) (H : Heap) : Prop := vk_S 9 hSlen hSbyt ad av A U H ∧ (∀ i : Nat, i < 9 → vk_R (hSown.getD i "") (hSidx.getD i 0) (hStx.getD i "") (ad i) U) ∧ va_Z "java/lang/String" "COMPACT_STRINGS" "Z" (.int 1) A U H ∧ va_Zq "jdk/internal/util/Preconditions" "SIOOBE_FORMATTER" "Ljava/util/function/BiFunction;" A U H ∧ va_Z "java/util/ArrayList" "DEFAULTCAPACITY_EMPTY_ELEMENTDATA" "[Ljava/lang/Object;" (.ref (ad 9)) A U H ∧ va_T (.object "java/lang/Object") (ad 9) 0 (fun _ => .null) A U H ∧ va_O "[Ljava/lang/Object;" (ad 9) A U H ∧ va_Mi "[Ljava/lang/Object;" (ad 10) U ∧ hOldN U
theorem hOld.warm {A : Nat → Prop} {ad av : Nat → Nat} {s U : State} {H : Heap} (hW : s.WarmedH U.vm) (h : hOld A ad av s H) : hOld A ad av U H := ⟨h.1.moved hW.alike, fun i hi => (h.2.1 i hi).warm hW, h.2.2.1.moved hW.alike, h.2.2.2.1.moved hW.alike, h.2.2.2.2.1.moved hW.alike, h.2.2.2.2.2.1.moved hW.alike, h.2.2.2.2.2.2.1.moved hW.alike, h.2.2.2.2.2.2.2.1.moved hW.alike, h.2.2.2.2.2.2.2.2.warm hW⟩
theorem hOld.same {A : Nat → Prop} {ad av : Nat → Nat} {s U : State} {H : Heap} (hW : U.vm = s.vm) (h : hOld A ad av s H) : hOld A ad av U H := by
  have q : s.vm.Alike U.vm := by rw [hW]; exact Vm.Alike.refl s.vm
  exact ⟨h.1.moved q, fun i hi => (h.2.1 i hi).same hW, h.2.2.1.moved q, h.2.2.2.1.moved q, h.2.2.2.2.1.moved q, h.2.2.2.2.2.1.moved q, h.2.2.2.2.2.2.1.moved q, h.2.2.2.2.2.2.2.1.moved q, h.2.2.2.2.2.2.2.2.same hW⟩
theorem hOld.kept {A : Nat → Prop} {ad av : Nat → Nat} {U : State} {H H1 : Heap} (h : hOld A ad av U H) (hq : ∀ a : Nat, a < H.size → ¬ A a → H1[a]? = H[a]?) : hOld A ad av U H1 := ⟨h.1.kept hq, h.2.1, h.2.2.1.kept hq, h.2.2.2.1.kept hq, h.2.2.2.2.1.kept hq, h.2.2.2.2.2.1.kept hq, h.2.2.2.2.2.2.1.kept hq, h.2.2.2.2.2.2.2⟩
def hCX (p : Program) (s : State) (m : MethodId) (args : Array Value) (meth : Method) (c : Code) (own : String) (cc : ByteArray) (nL : Nat) (ret : Option FieldType) (D : va_G) (cy : Nat → ClassId) (A : Nat → Prop) (ad av : Nat → Nat) : Prop :=
  p.tables.exec = Jvm.exec ∧ c.code = cc ∧ c.maxLocals = nL ∧ s.vm.findClass own = some m.cls ∧ (∀ w ∈ wsL_law, w.before args s = true) ∧ va_K D vwCl (hTy cy) s ∧ hOld A ad av s s.heap ∧ meth.sig.returnType = ret ∧ meth.locks = false
/-- the world: the cells, apart; the frame; the size of the heap where it is told; G: what is known of S -/
def hWd (D : va_G) (B : Nat) (cy : Nat → ClassId) (A : Nat → Prop) (ex : Bool) (G : HS → Prop) (S : HS) (H0 H : Heap) (locs : List Loc) : Prop :=
  va_P D vwCl (hWs B cy S) H ∧ va_D A (hWs B cy S) ∧ va_S A H0 H locs ∧ (ex = true → H.size = B + gZ S) ∧ hFr S ∧ G S
def hIn (D : va_G) (B : Nat) (cy : Nat → ClassId) (A : Nat → Prop) (ad av : Nat → Nat) (ex : Bool) (G : HS → Prop) (S : HS) (U : State) : Prop :=
  va_P D vwCl (hWs B cy S) U.heap ∧ va_D A (hWs B cy S) ∧ va_K D vwCl (hTy cy) U ∧ hOld A ad av U U.heap ∧ (ex = true → U.heap.size = B + gZ S)
def hQo (D : va_G) (B : Nat) (cy : Nat → ClassId) (A : Nat → Prop) (ex : Bool) (G : HS → Prop) (S : HS) (ov : Option Value) : Array Value → State → Outcome → State → Prop := fun _ st oc t =>
  oc = .returned ov ∧ (va_P D vwCl (hWs B cy S) t.heap ∧ va_D A (hWs B cy S) ∧ (ex = true → t.heap.size = B + gZ S) ∧ hFr S ∧ G S) ∧ va_F A st t
/-- the contract of a method: from the heap S with the arguments av0 it comes to Z with the answer ov -/
def hMet (l : Launch) (y : MethodName) (cc : ByteArray) (nL : Nat) (ret : Option FieldType) (rm : Room) (D : va_G) (B : Nat) (cy : Nat → ClassId) (A : Nat → Prop) (ad av : Nat → Nat) (ex : Bool) (G : HS → Prop) (av0 : List Value) (S Z : HS) (ov : Option Value) (mc ms : Nat) : Prop :=
  Met l y (Cond.code y cc nL ret :: wsL_law) rm (va_Pc av0 (hIn D B cy A ad av ex G S)) (hQo D B cy A ex G Z ov) mc ms A
theorem tw_good : wsL_law.all goodWord = true := by decide +kernel
theorem tw_in {y : MethodName} {cc : ByteArray} {nL : Nat} {ret : Option FieldType} {w : Cond} (h : Cond.code y cc nL ret ∈ wsL_law) : GoodIn (w :: wsL_law) (Cond.code y cc nL ret :: wsL_law) := by
  intro w' hw
  have hm : w' ∈ wsL_law := by
    rcases List.mem_cons.mp hw with e | e
    · rw [e]; exact h
    · exact e
  exact ⟨List.mem_cons_of_mem _ hm, good_of_word (List.all_eq_true.mp tw_good w' hm)⟩
theorem tw_inT {y : MethodName} {cc : ByteArray} {nL : Nat} {ret : Option FieldType} (h : Cond.code y cc nL ret ∈ wsL_law) : GoodIn wsL_law (Cond.code y cc nL ret :: wsL_law) := by
  intro w' hw
  have hm : w' ∈ wsL_law := by
    rcases List.mem_cons.mp hw with e | e
    · rw [e]; exact h
    · exact e
  exact ⟨hm, good_of_word (List.all_eq_true.mp tw_good w' hm)⟩
section HROWS
variable {p : Program} {l : Launch} {e : Env} {R : Room} {s : State} {m : MethodId} {args : Array Value} {below : List Frame} {meth : Method} {c : Code} {H : Heap} {locs : List Loc} {cells slots : Nat} {Q : State → Prop}
variable {cc : ByteArray} {nL : Nat} {ret : Option FieldType} {own : String} {pc : Nat} {ls : Array Slot} {rest : List Value} {D : va_G} {cy : Nat → ClassId} {A : Nat → Prop} {ad av : Nat → Nat} {B : Nat} {ex : Bool} {G : HS → Prop} {S : HS} {H0 : Heap}
theorem r_getI (X : hCX p s m args meth c own cc nL ret D cy A ad av) (hw : hWd D B cy A ex G S H0 H locs) {κ idx N : Nat} {C : String} {T : u_T} (hc : vwCl[kcl κ]? = some (C, T, N)) (hin : ∀ w ∈ u_ws C T N, w ∈ wsL_law) (k : Nat) (hk : k < N) (ht : (ktl κ)[k]? = some 0) (h20 : κ < 20) (hl : Cond.fieldLink own idx (T k).1 (T k).2.1 (T k).2.2.1 ∈ wsL_law) {c0 : Nat} (hκ : gK S c0 = κ) (hd : decode cc pc = .ok (.getfield idx, 3))
    (kk : W p l e R s m args below meth c H locs cells slots Q (F0 m (pc + 3) ls (.int (gI S c0 k) :: rest))) : W p l e R s m args below meth c H locs cells slots Q (F0 m pc ls (.ref (B + c0) :: rest)) := by
  obtain ⟨hx, hb, hml, hown, hts, hK, -⟩ := X
  obtain ⟨hP, hD, hS, hz, hf, hG⟩ := hw
  obtain ⟨q0, hq⟩ := hWs_get (B := B) (cy := cy) (hFr_in hf hκ (by omega))
  rw [hEn_obj hκ h20] at hq
  exact va_get (D := D) (ci := kcl κ) (v := .int (gI S c0 k)) hx hb hts hin hown hK hP q0 hq hc k hk (hts _ hl) (fun _ h9 => h9) (hFs_get ht) hd kk
theorem r_getR (X : hCX p s m args meth c own cc nL ret D cy A ad av) (hw : hWd D B cy A ex G S H0 H locs) {κ idx N : Nat} {C : String} {T : u_T} (hc : vwCl[kcl κ]? = some (C, T, N)) (hin : ∀ w ∈ u_ws C T N, w ∈ wsL_law) (k : Nat) (hk : k < N) (ht : (ktl κ)[k]? = some 1) (h20 : κ < 20) (hl : Cond.fieldLink own idx (T k).1 (T k).2.1 (T k).2.2.1 ∈ wsL_law) {c0 : Nat} (hκ : gK S c0 = κ) (hd : decode cc pc = .ok (.getfield idx, 3))
    (kk : W p l e R s m args below meth c H locs cells slots Q (F0 m (pc + 3) ls (va_rf ((gR S c0 k).map (B + ·)) :: rest))) : W p l e R s m args below meth c H locs cells slots Q (F0 m pc ls (.ref (B + c0) :: rest)) := by
  obtain ⟨hx, hb, hml, hown, hts, hK, -⟩ := X
  obtain ⟨hP, hD, hS, hz, hf, hG⟩ := hw
  obtain ⟨q0, hq⟩ := hWs_get (B := B) (cy := cy) (hFr_in hf hκ (by omega))
  rw [hEn_obj hκ h20] at hq
  exact va_get (D := D) (ci := kcl κ) (v := va_rf ((gR S c0 k).map (B + ·))) hx hb hts hin hown hK hP q0 hq hc k hk (hts _ hl) (fun _ h9 => h9) (hFs_get ht) hd kk
/-- a reference field whose content is known -/
theorem r_getF (X : hCX p s m args meth c own cc nL ret D cy A ad av) (hw : hWd D B cy A ex G S H0 H locs) {κ idx N : Nat} {C : String} {T : u_T} (hc : vwCl[kcl κ]? = some (C, T, N)) (hin : ∀ w ∈ u_ws C T N, w ∈ wsL_law) (k : Nat) (hk : k < N) (ht : (ktl κ)[k]? = some 1) (h20 : κ < 20) (hl : Cond.fieldLink own idx (T k).1 (T k).2.1 (T k).2.2.1 ∈ wsL_law) {c0 : Nat} (hκ : gK S c0 = κ) {d0 : Nat} (hr : gR S c0 k = some d0) (hd : decode cc pc = .ok (.getfield idx, 3))
    (kk : W p l e R s m args below meth c H locs cells slots Q (F0 m (pc + 3) ls (.ref (B + d0) :: rest))) : W p l e R s m args below meth c H locs cells slots Q (F0 m pc ls (.ref (B + c0) :: rest)) := by
  refine r_getR X hw hc hin k hk ht h20 hl hκ hd ?_
  rw [hr]
  exact kk
theorem r_iald (X : hCX p s m args meth c own cc nL ret D cy A ad av) (hw : hWd D B cy A ex G S H0 H locs) {c0 : Nat} (hκ : gK S c0 = 21) {i : Int32} {nn : Nat} (hnn : gN S c0 = nn) (hi : vp_in i nn) (hd : decode cc pc = .ok (.iaload, 1))
    (kk : W p l e R s m args below meth c H locs cells slots Q (F0 m (pc + 1) ls (.int (gI S c0 i.toNatClampNeg) :: rest))) : W p l e R s m args below meth c H locs cells slots Q (F0 m pc ls (.int i :: .ref (B + c0) :: rest)) := by
  subst hnn
  obtain ⟨hx, hb, hml, hown, hts, hK, -⟩ := X
  obtain ⟨hP, hD, hS, hz, hf, hG⟩ := hw
  obtain ⟨q0, hq⟩ := hWs_get (B := B) (cy := cy) (hFr_in hf hκ (by omega))
  rw [hEn_int hκ (by omega)] at hq
  exact va_iald (D := D) hx hb hK hP q0 1 hq rfl hi hd kk
theorem r_zald (X : hCX p s m args meth c own cc nL ret D cy A ad av) (hw : hWd D B cy A ex G S H0 H locs) {c0 : Nat} (hκ : gK S c0 = 23) {i : Int32} {nn : Nat} (hnn : gN S c0 = nn) (hi : vp_in i nn) (hd : decode cc pc = .ok (.baload, 1))
    (kk : W p l e R s m args below meth c H locs cells slots Q (F0 m (pc + 1) ls (.int (gI S c0 i.toNatClampNeg) :: rest))) : W p l e R s m args below meth c H locs cells slots Q (F0 m pc ls (.int i :: .ref (B + c0) :: rest)) := by
  subst hnn
  obtain ⟨hx, hb, hml, hown, hts, hK, -⟩ := X
  obtain ⟨hP, hD, hS, hz, hf, hG⟩ := hw
  obtain ⟨q0, hq⟩ := hWs_get (B := B) (cy := cy) (hFr_in hf hκ (by omega))
  rw [hEn_int hκ (by omega)] at hq
  exact va_zald (D := D) hx hb hK hP q0 3 hq rfl hi hd kk
theorem r_bald (X : hCX p s m args meth c own cc nL ret D cy A ad av) (hw : hWd D B cy A ex G S H0 H locs) {c0 : Nat} (hκ : gK S c0 = 20) {i : Int32} {nn : Nat} (hnn : gN S c0 = nn) (hi : vp_in i nn) (hd : decode cc pc = .ok (.baload, 1))
    (kk : W p l e R s m args below meth c H locs cells slots Q (F0 m (pc + 1) ls (.int (gI S c0 i.toNatClampNeg) :: rest))) : W p l e R s m args below meth c H locs cells slots Q (F0 m pc ls (.int i :: .ref (B + c0) :: rest)) := by
  subst hnn
  obtain ⟨hx, hb, hml, hown, hts, hK, -⟩ := X
  obtain ⟨hP, hD, hS, hz, hf, hG⟩ := hw
  obtain ⟨q0, hq⟩ := hWs_get (B := B) (cy := cy) (hFr_in hf hκ (by omega))
  rw [hEn_int hκ (by omega)] at hq
  exact va_bald (D := D) hx hb hK hP q0 0 hq rfl hi hd kk
theorem r_lald (X : hCX p s m args meth c own cc nL ret D cy A ad av) (hw : hWd D B cy A ex G S H0 H locs) {c0 : Nat} (hκ : gK S c0 = 22) {i : Int32} {nn : Nat} (hnn : gN S c0 = nn) (hi : vp_in i nn) (hd : decode cc pc = .ok (.laload, 1))
    (kk : W p l e R s m args below meth c H locs cells slots Q (F0 m (pc + 1) ls (.long (gJ S c0 i.toNatClampNeg) :: rest))) : W p l e R s m args below meth c H locs cells slots Q (F0 m pc ls (.int i :: .ref (B + c0) :: rest)) := by
  subst hnn
  obtain ⟨hx, hb, hml, hown, hts, hK, -⟩ := X
  obtain ⟨hP, hD, hS, hz, hf, hG⟩ := hw
  obtain ⟨q0, hq⟩ := hWs_get (B := B) (cy := cy) (hFr_in hf hκ (by omega))
  rw [hEn_long hκ] at hq
  exact va_lald (D := D) hx hb hK hP q0 2 hq rfl hi hd kk
theorem r_aald (X : hCX p s m args meth c own cc nL ret D cy A ad av) (hw : hWd D B cy A ex G S H0 H locs) {c0 κ : Nat} (hκ : gK S c0 = κ) (h24 : κ = 24 ∨ κ = 25) {i : Int32} {nn : Nat} (hnn : gN S c0 = nn) (hi : vp_in i nn) (hd : decode cc pc = .ok (.aaload, 1))
    (kk : W p l e R s m args below meth c H locs cells slots Q (F0 m (pc + 1) ls (va_rf ((gR S c0 i.toNatClampNeg).map (B + ·)) :: rest))) : W p l e R s m args below meth c H locs cells slots Q (F0 m pc ls (.int i :: .ref (B + c0) :: rest)) := by
  subst hnn
  obtain ⟨hx, hb, hml, hown, hts, hK, -⟩ := X
  obtain ⟨hP, hD, hS, hz, hf, hG⟩ := hw
  obtain ⟨q0, hq⟩ := hWs_get (B := B) (cy := cy) (hFr_in hf hκ (by omega))
  rw [hEn_ref hκ (by omega)] at hq
  rcases h24 with rfl | rfl
  · exact va_aldq (D := D) (C := "PayScales$Line") hx hb hK hP q0 4 hq rfl hi hd kk
  · exact va_aldq (D := D) (C := "java/lang/Object") hx hb hK hP q0 5 hq rfl hi hd kk
theorem r_alen (X : hCX p s m args meth c own cc nL ret D cy A ad av) (hw : hWd D B cy A ex G S H0 H locs) {c0 κ : Nat} (hκ : gK S c0 = κ) (h24 : 20 ≤ κ ∧ κ < 26) {nn : Nat} (hnn : gN S c0 = nn) (hd : decode cc pc = .ok (.arraylength, 1))
    (kk : W p l e R s m args below meth c H locs cells slots Q (F0 m (pc + 1) ls (.int (nI nn) :: rest))) : W p l e R s m args below meth c H locs cells slots Q (F0 m pc ls (.ref (B + c0) :: rest)) := by
  subst hnn
  obtain ⟨hx, hb, hml, hown, hts, hK, -⟩ := X
  obtain ⟨hP, hD, hS, hz, hf, hG⟩ := hw
  obtain ⟨q0, hq⟩ := hWs_get (B := B) (cy := cy) (hFr_in hf hκ (by omega))
  have h6 : κ = 20 ∨ κ = 21 ∨ κ = 22 ∨ κ = 23 ∨ κ = 24 ∨ κ = 25 := by omega
  rcases h6 with rfl | rfl | rfl | rfl | rfl | rfl
  · rw [hEn_int hκ (by omega)] at hq
    exact va_alen (D := D) hx hb hK hP q0 0 hq (ty := .byte) rfl rfl hd kk
  · rw [hEn_int hκ (by omega)] at hq
    exact va_alen (D := D) hx hb hK hP q0 1 hq (ty := .int) rfl rfl hd kk
  · rw [hEn_long hκ] at hq
    exact va_alen (D := D) hx hb hK hP q0 2 hq (ty := .long) rfl rfl hd kk
  · rw [hEn_int hκ (by omega)] at hq
    exact va_alen (D := D) hx hb hK hP q0 3 hq (ty := .boolean) rfl rfl hd kk
  · rw [hEn_ref hκ (by omega)] at hq
    exact va_alen (D := D) hx hb hK hP q0 4 hq (ty := .object "PayScales$Line") rfl rfl hd kk
  · rw [hEn_ref hκ (by omega)] at hq
    exact va_alen (D := D) hx hb hK hP q0 5 hq (ty := .object "java/lang/Object") rfl rfl hd kk
theorem hWd_upd {S' : HS} {H1 : Heap} {c0 : Nat} (hw : hWd D B cy A ex G S H0 H locs) (hc0 : c0 ∈ hLv S) (ha : va_at D vwCl (B + c0, hEn B cy S' c0) H1) (z : H1.size = H.size) (oq : ∀ q : Nat, q ≠ B + c0 → H1[q]? = H[q]?) (hK : gK S' = gK S) (hZ : gZ S' = gZ S) (hne : ∀ b, b ≠ c0 → hEn B cy S' b = hEn B cy S b) (hG : G S') (k : Nat) : hWd D B cy A ex G S' H0 H1 (locs ++ [⟨B + c0, k⟩]) := by
  obtain ⟨hP, hD, hS, hz, hf, -⟩ := hw
  obtain ⟨q0, hq⟩ := hWs_get (B := B) (cy := cy) hc0
  have hL := hLv_eq hK hZ
  have e1 := hWs_set hq hL hne
  have h1 := hP.set hD hq ha oq
  have h2 := hD.set (e := hEn B cy S' c0) hq
  rw [e1] at h1 h2
  refine ⟨h1, h2, hS.put z oq (hD.2 q0 _ hq), fun h => by rw [z, hZ]; exact hz h, ?_, hG⟩
  intro b hb
  rw [hK]
  exact hf b (by rw [← hZ]; exact hb)
theorem hVl_sI {cy : Nat → ClassId} {S : HS} {c0 k : Nat} {v : Int32} (j : Nat) (t : Nat) (h : j ≠ k) : hVl B cy (sI S c0 k v) t c0 j = hVl B cy S t c0 j := by
  have e : gI (sI S c0 k v) c0 j = gI S c0 j := by rw [gI_sI]; exact if_neg (fun q => h q.2)
  unfold hVl
  rw [e, gR_sI]
theorem hVl_sR {cy : Nat → ClassId} {S : HS} {c0 k : Nat} {v : Option Nat} (j : Nat) (t : Nat) (h : j ≠ k) : hVl B cy (sR S c0 k v) t c0 j = hVl B cy S t c0 j := by
  have e : gR (sR S c0 k v) c0 j = gR S c0 j := by rw [gR_sR]; exact if_neg (fun q => h q.2)
  unfold hVl
  rw [e, gI_sR]
theorem r_put0 (X : hCX p s m args meth c own cc nL ret D cy A ad av) (hw : hWd D B cy A ex G S H0 H locs) {S' : HS} {κ idx N : Nat} {C : String} {T : u_T} (hc : vwCl[kcl κ]? = some (C, T, N)) (hin : ∀ w ∈ u_ws C T N, w ∈ wsL_law) (ty0 : Nat → FieldType) (hty : ∀ k, k < N → parseFieldDescriptor (T k).2.2.1 = some (ty0 k)) (hnm : ∀ a, a < N → ∀ b, b < N → a ≠ b → (T a).2.1 ≠ (T b).2.1) (k : Nat) (hk : k < N) {t : Nat} (ht : (ktl κ)[k]? = some t) (h20 : κ < 20) (hl : Cond.fieldLink own idx (T k).1 (T k).2.1 (T k).2.2.1 ∈ wsL_law) (hfin : (T k).2.2.2 = false ∨ ((T k).2.2.2 = true ∧ meth.name = "<init>" ∧ (T k).1 = own)) {c0 : Nat} (hκ : gK S c0 = κ) {v : Value} (hn : narrow (ty0 k) v = v) (hfit : fits (ty0 k) v = true)
    (hv : hVl B cy S' t c0 k = v) (hj : ∀ j t', j ≠ k → hVl B cy S' t' c0 j = hVl B cy S t' c0 j) (hgK : gK S' = gK S) (hgZ : gZ S' = gZ S) (hne : ∀ b, b ≠ c0 → hEn B cy S' b = hEn B cy S b) (hG : G S') (hd : decode cc pc = .ok (.putfield idx, 3))
    (kk : ∀ (H1 : Heap) (locs1 : List Loc), hWd D B cy A ex G S' H0 H1 locs1 → W p l e R s m args below meth c H1 locs1 cells slots Q (F0 m (pc + 3) ls rest)) : W p l e R s m args below meth c H locs cells slots Q (F0 m pc ls (v :: .ref (B + c0) :: rest)) := by
  obtain ⟨hx, hb, hml, hown, hts, hK, -⟩ := X
  have hwk := hw
  obtain ⟨hP, hD, hS, hz, hf, -⟩ := hw
  have hc0 := hFr_in hf hκ (by omega)
  obtain ⟨q0, hq⟩ := hWs_get (B := B) (cy := cy) hc0
  rw [hEn_obj hκ h20] at hq
  have hap := va_apart (own := own) hts hin ty0 hty hnm hK hc
  obtain ⟨r, h1, cell, q1, q2, q3, q4⟩ := hP q0 _ hq
  have hr : r = (C, T, N) := Option.some.inj (h1.symm.trans hc)
  subst hr
  obtain ⟨hSl, hfc, kC, hkC, hkind⟩ := hK.1 (kcl κ) _ hc
  obtain ⟨cf, kf, fi, f, hi, hsl⟩ := hSl k hk
  have hlay := hts _ (hin _ (u_in_lay hk))
  have hst := (u_facts hfc hkC (u_lays hts hin hk) hi).1
  have hlen : k < (hFs B cy S c0 (ktl κ)).length := by rw [hFs_len]; exact (List.getElem?_eq_some_iff.mp ht).1
  have fin : ∀ H' : Heap, H'[B + c0]? = some (cell.setSlot (D.2 (kcl κ) k) v) → H'.size = H.size → (∀ q : Nat, q ≠ B + c0 → H'[q]? = H[q]?) → hWd D B cy A ex G S' H0 H' (locs ++ [⟨B + c0, D.2 (kcl κ) k⟩]) := by
    intro H' e1 e2 e3
    refine hWd_upd hwk hc0 ?_ e2 e3 hgK hgZ hne hG _
    rw [hEn_obj (S := S') (κ := κ) (by rw [hgK]; exact hκ) h20, ← hFs_set ht hj, hv]
    exact ⟨_, hc, t_OB.to (V := updV (vp_V (hFs B cy S c0 (ktl κ))) k v) ⟨_, e1, q2, q3, t_set q4 hap hk v⟩ (fun j _ => vp_updV_set hlen v j)⟩
  rcases hfin with hfin | ⟨hfin, hin2, hdecl⟩
  · unfold u_lay at hlay
    rw [if_neg (by rw [hfin]; decide)] at hlay
    have h6 := u_store hfc hkC hkind hlay hi (hty k hk) hn hfit
    refine W.putK hx hb (f := f) ⟨hown, hts _ hl, ⟨_, _, _, hi⟩, hst⟩ (by rw [q2]; exact h6) q1 q3 (by rw [hsl]; exact k2_hasslot (q4 k hk)) rfl rfl hd fun H' e1 e2 e3 => ?_
    rw [hsl] at e1 ⊢
    exact kk H' _ (fin H' e1 e2 e3)
  · unfold u_lay at hlay
    rw [if_pos hfin] at hlay
    have hcf : m.cls = cf := by
      obtain ⟨_, _, c', _, _, _, -, -, hf', -, -, -, hown2, -⟩ := Cond.laysFinal_spec hlay
      have e1 : c' = cf := by have := hi.symm.trans hf'; simp at this; exact this.1.symm
      rw [hdecl] at hown2
      rw [← e1]; exact Option.some.inj (hown.symm.trans hown2)
    have h6 := u_fits hfc hkC hkind (Or.inr hlay) hi (hty k hk) hn hfit
    refine W.putFinK hx hb hown (hts _ hl) hi hst hcf hin2 (by rw [q2]; exact h6) q1 q3 (by rw [hsl]; exact k2_hasslot (q4 k hk)) rfl rfl hd fun H' e1 e2 e3 => ?_
    rw [hsl] at e1 ⊢
    exact kk H' _ (fin H' e1 e2 e3)
theorem r_putI (X : hCX p s m args meth c own cc nL ret D cy A ad av) (hw : hWd D B cy A ex G S H0 H locs) {κ idx N : Nat} {C : String} {T : u_T} (hc : vwCl[kcl κ]? = some (C, T, N)) (hin : ∀ w ∈ u_ws C T N, w ∈ wsL_law) (ty0 : Nat → FieldType) (hty : ∀ k, k < N → parseFieldDescriptor (T k).2.2.1 = some (ty0 k)) (hnm : ∀ a, a < N → ∀ b, b < N → a ≠ b → (T a).2.1 ≠ (T b).2.1) (k : Nat) (hk : k < N) (ht : (ktl κ)[k]? = some 0) (h20 : κ < 20) (hl : Cond.fieldLink own idx (T k).1 (T k).2.1 (T k).2.2.1 ∈ wsL_law) (hfin : (T k).2.2.2 = false ∨ ((T k).2.2.2 = true ∧ meth.name = "<init>" ∧ (T k).1 = own)) {c0 : Nat} (hκ : gK S c0 = κ) {v : Int32} (hn : narrow (ty0 k) (.int v) = .int v) (hfit : fits (ty0 k) (.int v) = true) (hG : G (sI S c0 k v)) (hd : decode cc pc = .ok (.putfield idx, 3))
    (kk : ∀ (H1 : Heap) (locs1 : List Loc), hWd D B cy A ex G (sI S c0 k v) H0 H1 locs1 → W p l e R s m args below meth c H1 locs1 cells slots Q (F0 m (pc + 3) ls rest)) : W p l e R s m args below meth c H locs cells slots Q (F0 m pc ls (.int v :: .ref (B + c0) :: rest)) := by
  refine r_put0 X hw (S' := sI S c0 k v) hc hin ty0 hty hnm k hk ht h20 hl hfin hκ hn hfit ?_ (fun j t' h => hVl_sI j t' h) rfl rfl (fun b h => hEn_sI_ne h) hG hd kk
  have e1 : gI (sI S c0 k v) c0 k = v := by rw [gI_sI]; exact if_pos ⟨rfl, rfl⟩
  show Value.int (gI (sI S c0 k v) c0 k) = _
  rw [e1]
theorem va_rf_cat (r : Option Nat) : va_rf r = .null ∨ ∃ a, va_rf r = .ref a := va_rf_or r
theorem nar_ref {ty : FieldType} (h : (∃ n, ty = .object n) ∨ ∃ t, ty = .array t) (r : Option Nat) : narrow ty (va_rf r) = va_rf r ∧ fits ty (va_rf r) = true := by
  rcases h with ⟨n, rfl⟩ | ⟨t, rfl⟩ <;> cases r <;> exact ⟨rfl, rfl⟩
theorem r_putR (X : hCX p s m args meth c own cc nL ret D cy A ad av) (hw : hWd D B cy A ex G S H0 H locs) {κ idx N : Nat} {C : String} {T : u_T} (hc : vwCl[kcl κ]? = some (C, T, N)) (hin : ∀ w ∈ u_ws C T N, w ∈ wsL_law) (ty0 : Nat → FieldType) (hty : ∀ k, k < N → parseFieldDescriptor (T k).2.2.1 = some (ty0 k)) (hnm : ∀ a, a < N → ∀ b, b < N → a ≠ b → (T a).2.1 ≠ (T b).2.1) (k : Nat) (hk : k < N) (ht : (ktl κ)[k]? = some 1) (h20 : κ < 20) (hl : Cond.fieldLink own idx (T k).1 (T k).2.1 (T k).2.2.1 ∈ wsL_law) (hfin : (T k).2.2.2 = false ∨ ((T k).2.2.2 = true ∧ meth.name = "<init>" ∧ (T k).1 = own)) {c0 : Nat} (hκ : gK S c0 = κ) {v : Option Nat} (hty1 : (∃ n, ty0 k = .object n) ∨ ∃ t, ty0 k = .array t) (hG : G (sR S c0 k v)) (hd : decode cc pc = .ok (.putfield idx, 3))
    (kk : ∀ (H1 : Heap) (locs1 : List Loc), hWd D B cy A ex G (sR S c0 k v) H0 H1 locs1 → W p l e R s m args below meth c H1 locs1 cells slots Q (F0 m (pc + 3) ls rest)) : W p l e R s m args below meth c H locs cells slots Q (F0 m pc ls (va_rf (v.map (B + ·)) :: .ref (B + c0) :: rest)) := by
  refine r_put0 X hw (S' := sR S c0 k v) hc hin ty0 hty hnm k hk ht h20 hl hfin hκ (nar_ref hty1 _).1 (nar_ref hty1 _).2 ?_ (fun j t' h => hVl_sR j t' h) rfl rfl (fun b h => hEn_sR_ne h) hG hd kk
  have e1 : gR (sR S c0 k v) c0 k = v := by rw [gR_sR]; exact if_pos ⟨rfl, rfl⟩
  show va_rf ((gR (sR S c0 k v) c0 k).map (B + ·)) = _
  rw [e1]
theorem arr_upI {S : HS} {c0 j : Nat} {x : Int32} : gI (sI S c0 j x) c0 = upd (gI S c0) j x := by
  funext q
  rw [gI_sI]
  unfold upd
  by_cases hq : q = j
  · rw [if_pos ⟨rfl, hq⟩, if_pos hq]
  · rw [if_neg (fun z => hq z.2), if_neg hq]
theorem arr_upJ {S : HS} {c0 j : Nat} {x : Int64} : gJ (sJ S c0 j x) c0 = vp_updL (gJ S c0) j x := by
  funext q
  rw [gJ_sJ]
  unfold vp_updL
  by_cases hq : q = j
  · rw [if_pos ⟨rfl, hq⟩, if_pos hq]
  · rw [if_neg (fun z => hq z.2), if_neg hq]
theorem r_iast (X : hCX p s m args meth c own cc nL ret D cy A ad av) (hw : hWd D B cy A ex G S H0 H locs) {c0 : Nat} (hκ : gK S c0 = 21) {i x : Int32} {nn : Nat} (hnn : gN S c0 = nn) (hi : vp_in i nn) (hG : G (sI S c0 i.toNatClampNeg x)) (hd : decode cc pc = .ok (.iastore, 1))
    (kk : ∀ (H1 : Heap) (locs1 : List Loc), hWd D B cy A ex G (sI S c0 i.toNatClampNeg x) H0 H1 locs1 → W p l e R s m args below meth c H1 locs1 cells slots Q (F0 m (pc + 1) ls rest)) : W p l e R s m args below meth c H locs cells slots Q (F0 m pc ls (.int x :: .int i :: .ref (B + c0) :: rest)) := by
  subst hnn
  obtain ⟨hx, hb, hml, hown, hts, hK, -⟩ := X
  have hwk := hw
  obtain ⟨hP, hD, hS, hz, hf, -⟩ := hw
  have hc0 := hFr_in hf hκ (by omega)
  obtain ⟨q0, hq⟩ := hWs_get (B := B) (cy := cy) hc0
  rw [hEn_int hκ (by omega)] at hq
  refine W.iast hx hb (hP q0 _ hq) ((hK.2 1 _ rfl).1 (gN S c0) (fun j => .int (gI S c0 j))) (fun q => by cases q) (by show ¬ (i < 0 ∨ (arrV _ _ _).slots.size ≤ _); rw [arrV_size]; exact hi) rfl rfl hd fun H1 e1 z oq => ?_
  refine kk H1 _ (hWd_upd (S' := sI S c0 i.toNatClampNeg x) hwk hc0 ?_ z oq rfl rfl (fun b h => hEn_sI_ne h) hG _)
  rw [hEn_int (S := sI S c0 i.toNatClampNeg x) (κ := 21) hκ (by omega), arr_upI]
  show H1[B + c0]? = some (vp_cell _ _)
  rw [e1]
  rw [vp_cell_i, vp_cell_i, arrV_store]
  congr 2
  funext q
  by_cases hq : q = i.toNatClampNeg
  · subst hq
    simp [updV, upd]
  · simp [updV, upd, hq]
theorem r_zast (X : hCX p s m args meth c own cc nL ret D cy A ad av) (hw : hWd D B cy A ex G S H0 H locs) {c0 : Nat} (hκ : gK S c0 = 23) {i x : Int32} {nn : Nat} (hnn : gN S c0 = nn) (hi : vp_in i nn) (hzb : x = 0 ∨ x = 1) (hG : G (sI S c0 i.toNatClampNeg x)) (hd : decode cc pc = .ok (.bastore, 1))
    (kk : ∀ (H1 : Heap) (locs1 : List Loc), hWd D B cy A ex G (sI S c0 i.toNatClampNeg x) H0 H1 locs1 → W p l e R s m args below meth c H1 locs1 cells slots Q (F0 m (pc + 1) ls rest)) : W p l e R s m args below meth c H locs cells slots Q (F0 m pc ls (.int x :: .int i :: .ref (B + c0) :: rest)) := by
  subst hnn
  obtain ⟨hx, hb, hml, hown, hts, hK, -⟩ := X
  have hwk := hw
  obtain ⟨hP, hD, hS, hz, hf, -⟩ := hw
  have hc0 := hFr_in hf hκ (by omega)
  obtain ⟨q0, hq⟩ := hWs_get (B := B) (cy := cy) hc0
  rw [hEn_int hκ (by omega)] at hq
  refine W.zast hx hb (hP q0 _ hq) ((hK.2 3 _ rfl).1 (gN S c0) (fun j => .int (gI S c0 j))) (fun q => by cases q) (by show ¬ (i < 0 ∨ (arrV _ _ _).slots.size ≤ _); rw [arrV_size]; exact hi) rfl rfl hd fun H1 e1 z oq => ?_
  refine kk H1 _ (hWd_upd (S' := sI S c0 i.toNatClampNeg x) hwk hc0 ?_ z oq rfl rfl (fun b h => hEn_sI_ne h) hG _)
  rw [hEn_int (S := sI S c0 i.toNatClampNeg x) (κ := 23) hκ (by omega), arr_upI]
  show H1[B + c0]? = some (vp_cell _ _)
  rw [e1]
  rw [vp_cell_i, vp_cell_i, arrV_store]
  congr 2
  funext q
  by_cases hq : q = i.toNatClampNeg
  · subst hq
    rcases hzb with rfl | rfl <;> simp [updV, upd] <;> rfl
  · simp [updV, upd, hq]
theorem r_bast (X : hCX p s m args meth c own cc nL ret D cy A ad av) (hw : hWd D B cy A ex G S H0 H locs) {c0 : Nat} (hκ : gK S c0 = 20) {i x : Int32} {nn : Nat} (hnn : gN S c0 = nn) (hi : vp_in i nn) (hG : G (sI S c0 i.toNatClampNeg (vp_nar .byte x))) (hd : decode cc pc = .ok (.bastore, 1))
    (kk : ∀ (H1 : Heap) (locs1 : List Loc), hWd D B cy A ex G (sI S c0 i.toNatClampNeg (vp_nar .byte x)) H0 H1 locs1 → W p l e R s m args below meth c H1 locs1 cells slots Q (F0 m (pc + 1) ls rest)) : W p l e R s m args below meth c H locs cells slots Q (F0 m pc ls (.int x :: .int i :: .ref (B + c0) :: rest)) := by
  subst hnn
  obtain ⟨hx, hb, hml, hown, hts, hK, -⟩ := X
  have hwk := hw
  obtain ⟨hP, hD, hS, hz, hf, -⟩ := hw
  have hc0 := hFr_in hf hκ (by omega)
  obtain ⟨q0, hq⟩ := hWs_get (B := B) (cy := cy) hc0
  rw [hEn_int hκ (by omega)] at hq
  refine W.bast hx hb (hP q0 _ hq) ((hK.2 0 _ rfl).1 (gN S c0) (fun j => .int (gI S c0 j))) (fun q => by cases q) (by show ¬ (i < 0 ∨ (arrV _ _ _).slots.size ≤ _); rw [arrV_size]; exact hi) rfl rfl hd fun H1 e1 z oq => ?_
  refine kk H1 _ (hWd_upd (S' := sI S c0 i.toNatClampNeg (vp_nar .byte x)) hwk hc0 ?_ z oq rfl rfl (fun b h => hEn_sI_ne h) hG _)
  rw [hEn_int (S := sI S c0 i.toNatClampNeg (vp_nar .byte x)) (κ := 20) hκ (by omega), arr_upI]
  show H1[B + c0]? = some (vp_cell _ _)
  rw [e1]
  rw [vp_cell_i, vp_cell_i, arrV_store]
  congr 2
  funext q
  by_cases hq : q = i.toNatClampNeg
  · subst hq
    simp [updV, upd, vp_nar]
    try rfl
  · simp [updV, upd, hq]
theorem r_last (X : hCX p s m args meth c own cc nL ret D cy A ad av) (hw : hWd D B cy A ex G S H0 H locs) {c0 : Nat} (hκ : gK S c0 = 22) {i : Int32} {x : Int64} {nn : Nat} (hnn : gN S c0 = nn) (hi : vp_in i nn) (hG : G (sJ S c0 i.toNatClampNeg x)) (hd : decode cc pc = .ok (.lastore, 1))
    (kk : ∀ (H1 : Heap) (locs1 : List Loc), hWd D B cy A ex G (sJ S c0 i.toNatClampNeg x) H0 H1 locs1 → W p l e R s m args below meth c H1 locs1 cells slots Q (F0 m (pc + 1) ls rest)) : W p l e R s m args below meth c H locs cells slots Q (F0 m pc ls (.long x :: .int i :: .ref (B + c0) :: rest)) := by
  subst hnn
  obtain ⟨hx, hb, hml, hown, hts, hK, -⟩ := X
  have hwk := hw
  obtain ⟨hP, hD, hS, hz, hf, -⟩ := hw
  have hc0 := hFr_in hf hκ (by omega)
  obtain ⟨q0, hq⟩ := hWs_get (B := B) (cy := cy) hc0
  rw [hEn_long hκ] at hq
  refine W.last hx hb (hP q0 _ hq) ((hK.2 2 _ rfl).1 (gN S c0) (fun j => .long (gJ S c0 j))) (fun q => by cases q) (by show ¬ (i < 0 ∨ (arrV _ _ _).slots.size ≤ _); rw [arrV_size]; exact hi) rfl rfl hd fun H1 e1 z oq => ?_
  refine kk H1 _ (hWd_upd (S' := sJ S c0 i.toNatClampNeg x) hwk hc0 ?_ z oq rfl rfl (fun b h => hEn_sJ_ne h) hG _)
  rw [hEn_long (S := sJ S c0 i.toNatClampNeg x) hκ, arr_upJ]
  show H1[B + c0]? = some (vp_cell _ _)
  rw [e1]
  rw [vp_cell_l, vp_cell_l, arrV_store]
  congr 2
  funext q
  by_cases hq : q = i.toNatClampNeg
  · subst hq
    simp [updV, vp_updL]
  · simp [updV, vp_updL, hq]
/-! entry, ends, calls -/
theorem lv_ren {x y : Int32} (h : x = y) (k : W p l e R s m args below meth c H locs cells slots Q (F0 m pc ls (.int y :: rest))) : W p l e R s m args below meth c H locs cells slots Q (F0 m pc ls (.int x :: rest)) := h ▸ k
theorem lv_renl {x y : Int64} (h : x = y) (k : W p l e R s m args below meth c H locs cells slots Q (F0 m pc ls (.long y :: rest))) : W p l e R s m args below meth c H locs cells slots Q (F0 m pc ls (.long x :: rest)) := h ▸ k
theorem r_mmin (X : hCX p s m args meth c own cc nL ret D cy A ad av) (hsize : ls.size = nL) {idx : Nat} (w1 : Cond.methodLink own idx Lib.Math.min.name ∈ wsL_law) (hfr : 1 ≤ R.frames) (hlo : (rest.map fun v => v.category).sum + 13 ≤ R.locals) (hc : cells ≤ R.cells) (hs : slots ≤ R.slots) {x y : Int32} (hd : decode cc pc = .ok (.invokestatic idx, 3)) (kk : W p l e R s m args below meth c H locs cells slots Q (F0 m (pc + 3) ls (.int (jmin x y) :: rest))) : W p l e R s m args below meth c H locs cells slots Q (F0 m pc ls (.int y :: .int x :: rest)) :=
  va_mmin X.1 X.2.1 (X.2.2.1.trans hsize.symm) X.2.2.2.1 (X.2.2.2.2.1 _ w1) (X.2.2.2.2.1 _ tw_320) (X.2.2.2.2.1 _ tw_97) (X.2.2.2.2.1 _ tw_321) hfr hlo hc hs hd kk
theorem r_mmax (X : hCX p s m args meth c own cc nL ret D cy A ad av) (hsize : ls.size = nL) {idx : Nat} (w1 : Cond.methodLink own idx Lib.Math.max.name ∈ wsL_law) (hfr : 1 ≤ R.frames) (hlo : (rest.map fun v => v.category).sum + 13 ≤ R.locals) (hc : cells ≤ R.cells) (hs : slots ≤ R.slots) {x y : Int32} (hd : decode cc pc = .ok (.invokestatic idx, 3)) (kk : W p l e R s m args below meth c H locs cells slots Q (F0 m (pc + 3) ls (.int (jmax x y) :: rest))) : W p l e R s m args below meth c H locs cells slots Q (F0 m pc ls (.int y :: .int x :: rest)) :=
  va_mmax X.1 X.2.1 (X.2.2.1.trans hsize.symm) X.2.2.2.1 (X.2.2.2.2.1 _ w1) (X.2.2.2.2.1 _ tw_96) (X.2.2.2.2.1 _ tw_97) (X.2.2.2.2.1 _ tw_98) hfr hlo hc hs hd kk
theorem r_mabs (X : hCX p s m args meth c own cc nL ret D cy A ad av) (hsize : ls.size = nL) {idx : Nat} (w1 : Cond.methodLink own idx Lib.Math.abs.name ∈ wsL_law) (hfr : 1 ≤ R.frames) (hlo : (rest.map fun v => v.category).sum + 13 ≤ R.locals) (hc : cells ≤ R.cells) (hs : slots ≤ R.slots) {x : Int32} (hd : decode cc pc = .ok (.invokestatic idx, 3)) (kk : W p l e R s m args below meth c H locs cells slots Q (F0 m (pc + 3) ls (.int (jabs x) :: rest))) : W p l e R s m args below meth c H locs cells slots Q (F0 m pc ls (.int x :: rest)) :=
  va_mabs X.1 X.2.1 (X.2.2.1.trans hsize.symm) X.2.2.2.1 (X.2.2.2.2.1 _ w1) (X.2.2.2.2.1 _ tw_909) (X.2.2.2.2.1 _ tw_97) (X.2.2.2.2.1 _ tw_910) hfr hlo hc hs hd kk
theorem h_entry {y : MethodName} {rm : Room} {S Z : HS} {ov : Option Value} {mc ms : Nat} {av0 : List Value} (hy : plainName y.cls = true) (hfr : hFr S) (hG : G S)
    (body : ∀ (p : Program) (e : Env) (s : State) (m : MethodId) (below : List Frame) (meth : Method) (c : Code) (args : Array Value), hCX p s m args meth c y.cls cc nL ret D cy A ad av → meth.name = y.name → hWd D B cy A ex G S s.heap s.heap [] →
      W p l e rm s m args below meth c s.heap [] 0 0 (MQ below (hQo D B cy A ex G Z ov) args s mc ms A) (entryFrame m av0.toArray nL)) : hMet l y cc nL ret rm D B cy A ad av ex G av0 S Z ov mc ms := by
  refine Met.ofW (cc := cc) (maxL := nL) (ret := ret) hy rfl ?_
  intro p e s m args below meth c s₁ Bd hml hv
  obtain ⟨rfl, hP, hD, hK, hO, hz⟩ := hv
  have hts := atoms_spec (ws := Cond.code y cc nL ret :: wsL_law) Bd.pre
  exact body p e s m below meth c _ ⟨Bd.exec, Bd.bytes, hml, findClass_of_methodNamed Bd.named, fun w h => hts w (List.mem_cons_of_mem _ h), hK, hO, Bd.returns, Bd.notSynchronized⟩ (name_of_methodNamed Bd.named Bd.method).1 ⟨hP, hD, va_S.rf, hz, hfr, hG⟩
theorem h_end (hw : hWd D B cy A ex G S s.heap H locs) {ov : Option Value} : ∀ t : State, t.heap = H → s.WarmedH t.vm → hQo D B cy A ex G S ov args s (.returned ov) t := by
  intro t ht _
  obtain ⟨hP, hD, hS, hz, hf, hG⟩ := hw
  exact ⟨rfl, ⟨by rw [ht]; exact hP, hD, fun h => by rw [ht]; exact hz h, hf, hG⟩, hS.F ht⟩
theorem r_iret (X : hCX p s m args meth c own cc nL (some .int) D cy A ad av) (hw : hWd D B cy A ex G S s.heap H locs) {v : Int32} (hd : decode cc pc = .ok (.ireturn, 1)) : W p l e R s m args below meth c H locs cells slots (MQ below (hQo D B cy A ex G S (some (.int v))) args s cells slots A) (F0 m pc ls [.int v]) :=
  W.iret X.1 X.2.1 X.2.2.2.2.2.2.2.1 (h_end hw) hw.2.2.1.2.2 hd X.2.2.2.2.2.2.2.2
theorem r_zret (X : hCX p s m args meth c own cc nL (some .boolean) D cy A ad av) (hw : hWd D B cy A ex G S s.heap H locs) {v : Int32} (hz : v = 0 ∨ v = 1) (hd : decode cc pc = .ok (.ireturn, 1)) : W p l e R s m args below meth c H locs cells slots (MQ below (hQo D B cy A ex G S (some (.int v))) args s cells slots A) (F0 m pc ls [.int v]) :=
  W.zret X.1 X.2.1 X.2.2.2.2.2.2.2.1 (zb_n hz) (h_end hw) hw.2.2.1.2.2 hd X.2.2.2.2.2.2.2.2
theorem r_lret (X : hCX p s m args meth c own cc nL (some .long) D cy A ad av) (hw : hWd D B cy A ex G S s.heap H locs) {v : Int64} (hd : decode cc pc = .ok (.lreturn, 1)) : W p l e R s m args below meth c H locs cells slots (MQ below (hQo D B cy A ex G S (some (.long v))) args s cells slots A) (F0 m pc ls [.long v]) :=
  W.lret X.1 X.2.1 X.2.2.2.2.2.2.2.1 (h_end hw) hw.2.2.1.2.2 hd X.2.2.2.2.2.2.2.2
theorem r_vret (X : hCX p s m args meth c own cc nL none D cy A ad av) (hw : hWd D B cy A ex G S s.heap H locs) (hd : decode cc pc = .ok (.return_, 1)) : W p l e R s m args below meth c H locs cells slots (MQ below (hQo D B cy A ex G S none) args s cells slots A) (F0 m pc ls []) :=
  W.vret X.1 X.2.1 X.2.2.2.2.2.2.2.1 (h_end hw) hw.2.2.1.2.2 hd X.2.2.2.2.2.2.2.2
theorem r_aret {rt : FieldType} (X : hCX p s m args meth c own cc nL (some rt) D cy A ad av) (hrt : (∃ n, rt = .object n) ∨ ∃ t, rt = .array t) (hw : hWd D B cy A ex G S s.heap H locs) {v : Option Nat} (hd : decode cc pc = .ok (.areturn, 1)) : W p l e R s m args below meth c H locs cells slots (MQ below (hQo D B cy A ex G S (some (va_rf (v.map (B + ·))))) args s cells slots A) (F0 m pc ls [va_rf (v.map (B + ·))]) :=
  W.aret X.1 X.2.1 X.2.2.2.2.2.2.2.1 hrt (va_rf_or _) (h_end hw) hw.2.2.1.2.2 hd X.2.2.2.2.2.2.2.2
theorem h_pre {S : HS} {av0 : List Value} (X : hCX p s m args meth c own cc nL ret D cy A ad av) (hw : hWd D B cy A ex G S s.heap H locs) : ∀ U : State, U.heap = H → s.WarmedH U.vm → va_Pc av0 (hIn D B cy A ad av ex G S) av0.toArray U := by
  intro U hU hW
  obtain ⟨hx, hb, hml, hown, hts, hK, hO, -⟩ := X
  obtain ⟨hP, hD, hS, hz, hf, hG⟩ := hw
  exact ⟨rfl, by rw [hU]; exact hP, hD, va_K.moved hW.alike hK, by rw [hU]; exact (hO.kept hS.2.1).warm hW, fun h => by rw [hU]; exact hz h⟩
theorem h_blind {S : HS} {av0 : List Value} : FrameBlind (va_Pc av0 (hIn D B cy A ad av ex G S)) := by
  intro a U g mk q
  obtain ⟨q0, q1, q2, q3, q4, q5⟩ := q
  exact ⟨q0, q1, q2, va_K.moved (u := U) (U := U.calling g mk a) (Vm.Alike.refl U.vm) q3, hOld.same rfl q4, q5⟩
theorem h_call {Z : HS} {ov : Option Value} {mc ms : Nat} {a : Array Value} {st0 : List Value} (hw : hWd D B cy A ex G S s.heap H locs) (hr : va_Run p l e R s m args below meth c H locs cells slots mc ms (F0 m pc ls st0) rest (hQo D B cy A ex G Z ov a) A)
    (kk : ∀ (H1 : Heap) (locs1 : List Loc), hWd D B cy A ex G Z s.heap H1 locs1 → W p l e R s m args below meth c H1 locs1 (cells + mc) (slots + ms) Q (F0 m (pc + 3) ls (ov.toList ++ rest))) : W p l e R s m args below meth c H locs cells slots Q (F0 m pc ls st0) := by
  intro T hT X
  obtain ⟨v, st₀, t, T', L, h0, X', hL, e1, e2, ⟨hv, ⟨hP, hD, hz, hf, hG⟩, hz2, hk⟩, st⟩ := hr T hT X
  have hv' : v = ov := by cases hv; rfl
  subst hv'
  rw [h0] at hz2 hk
  have hS := hw.2.2.1
  obtain ⟨t2, a1, b1⟩ := kk T'.heap (locs ++ L) ⟨by rw [e1]; exact hP, hD, ⟨Nat.le_trans hS.1 (by rw [e1]; exact hz2), fun q h1 h2 => by rw [e1, hk q (Nat.lt_of_lt_of_le h1 hS.1) h2]; exact hS.2.1 q h1 h2, fun q hq => by
      rcases List.mem_append.mp hq with h | h
      · exact hS.2.2 q h
      · exact hL q h⟩, fun h => by rw [e1]; exact hz h, hf, hG⟩ T' rfl X'
  exact ⟨t2, st t2 a1, b1⟩
/-- a call of an instance method of the own kind -/
theorem r_callV {y : MethodName} {bytes : ByteArray} {maxL idx n mc ms : Nat} {rt : Option FieldType} {rm : Room} {Z : HS} {ov : Option Value} {As : List Value} {st0 : List Value} {c0 κ : Nat} (X : hCX p s m args meth c own cc nL ret D cy A ad av) (hw : hWd D B cy A ex G S s.heap H locs) (hM : hMet l y bytes maxL rt rm D B cy A ad av ex G (.ref (B + c0) :: As) S Z ov mc ms)
    (hrm : rm.cells = mc ∧ rm.slots = ms ∧ rm.frames + 1 ≤ R.frames ∧ 8 + (maxL + 11) + rm.locals ≤ R.locals) {C : String} {T : u_T} {N : Nat} (hc : vwCl[kcl κ]? = some (C, T, N)) (h20 : κ < 20) (hκ : gK S c0 = κ)
    (w1 : Cond.methodLink own idx y ∈ wsL_law) (w2 : Cond.instanceMethod y ∈ wsL_law) (w3 : Cond.selects C y y ∈ wsL_law) (w4 : Cond.initialized C ∈ wsL_law) (w5 : Cond.code y bytes maxL rt ∈ wsL_law) (hd0 : y.cls = C ∧ y.cls ≠ "java/lang/invoke/MethodHandle" ∧ y.cls ≠ "java/lang/invoke/VarHandle" ∧ (parseMethodDescriptor y.desc).map (fun d => d.parameters.length) = some n)
    (hn : As.length = n) (hsize : ls.size = nL) (hst : st0 = As.reverse ++ .ref (B + c0) :: rest) (hWt : (rest.map fun v => v.category).sum ≤ 8) (hd : decode cc pc = .ok (.invokevirtual idx, 3)) (hf : cells + mc ≤ R.cells ∧ slots + ms ≤ R.slots) {st1 : List Value} (hst1 : ov.toList ++ rest = st1)
    (kk : ∀ (H1 : Heap) (locs1 : List Loc), hWd D B cy A ex G Z s.heap H1 locs1 → W p l e R s m args below meth c H1 locs1 (cells + mc) (slots + ms) Q (F0 m (pc + 3) ls st1)) : W p l e R s m args below meth c H locs cells slots Q (F0 m pc ls st0) := by
  subst hst1
  have hX := X
  obtain ⟨hx, hb, hml, hown, hts, hK, -⟩ := X
  obtain ⟨q0, hq⟩ := hWs_get (B := B) (cy := cy) (hFr_in hw.2.2.2.2.1 hκ (by omega))
  rw [hEn_obj hκ h20] at hq
  obtain ⟨hC, hd1⟩ := hd0
  have cb : CallB R s args own idx y bytes maxL rt (Cond.code y bytes maxL rt :: wsL_law) rm mc ms n := callB_of n hts (tw_inT w5) rfl hrm.1 hrm.2.1 (by rw [hC]; exact hts _ w4) (hts _ w1) hd1 hrm.2.2
  exact h_call hw (va_runV (As := As) (rest := rest) ⟨hx, hb, hml, hown, hts⟩ hM ⟨cb, hts _ w2, hts _ w3⟩ ⟨h_blind, va_recv hK hw.1 hc hq, h_pre hX hw⟩ rfl hn hsize hst (lv_room hWt) hd hf) kk
theorem r_callS {y : MethodName} {bytes : ByteArray} {maxL idx n mc ms : Nat} {rt : Option FieldType} {rm : Room} {Z : HS} {ov : Option Value} {As : List Value} {st0 : List Value} (X : hCX p s m args meth c own cc nL ret D cy A ad av) (hw : hWd D B cy A ex G S s.heap H locs) (hM : hMet l y bytes maxL rt rm D B cy A ad av ex G As S Z ov mc ms)
    (hrm : rm.cells = mc ∧ rm.slots = ms ∧ rm.frames + 1 ≤ R.frames ∧ 8 + (maxL + 11) + rm.locals ≤ R.locals)
    (w1 : Cond.methodLink own idx y ∈ wsL_law) (w2 : Cond.static y ∈ wsL_law) (w4 : Cond.initialized y.cls ∈ wsL_law) (w5 : Cond.code y bytes maxL rt ∈ wsL_law) (hd0 : y.cls ≠ "java/lang/invoke/MethodHandle" ∧ y.cls ≠ "java/lang/invoke/VarHandle" ∧ (parseMethodDescriptor y.desc).map (fun d => d.parameters.length) = some n)
    (hn : As.length = n) (hsize : ls.size = nL) (hst : st0 = As.reverse ++ rest) (hWt : (rest.map fun v => v.category).sum ≤ 8) (hd : decode cc pc = .ok (.invokestatic idx, 3)) (hf : cells + mc ≤ R.cells ∧ slots + ms ≤ R.slots) {st1 : List Value} (hst1 : ov.toList ++ rest = st1)
    (kk : ∀ (H1 : Heap) (locs1 : List Loc), hWd D B cy A ex G Z s.heap H1 locs1 → W p l e R s m args below meth c H1 locs1 (cells + mc) (slots + ms) Q (F0 m (pc + 3) ls st1)) : W p l e R s m args below meth c H locs cells slots Q (F0 m pc ls st0) := by
  subst hst1
  have hX := X
  obtain ⟨hx, hb, hml, hown, hts, hK, -⟩ := X
  have cb : CallB R s args own idx y bytes maxL rt (Cond.code y bytes maxL rt :: wsL_law) rm mc ms n := callB_of n hts (tw_inT w5) rfl hrm.1 hrm.2.1 (hts _ w4) (hts _ w1) hd0 hrm.2.2
  exact h_call hw (va_runS (As := As) (rest := rest) ⟨hx, hb, hml, hown, hts⟩ hM ⟨cb, hts _ w2⟩ ⟨h_blind, h_pre hX hw⟩ rfl hn hsize hst (lv_room hWt) hd hf) kk
end HROWS
