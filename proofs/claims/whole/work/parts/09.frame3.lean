/-! the class's fixed cells -/
def KCl : List Nat := [9, 20, 5, 23, 0, 0, 21, 7, 24, 21, 21, 8, 2, 21, 21, 22, 6, 22, 6, 22, 6, 22, 21, 21]
def NCl : List Nat := [0, 2000, 0, 156, 0, 0, 8, 0, 156, 156, 156, 0, 0, 9, 8, 320, 0, 960, 0, 112, 0, 624, 8, 8]
def RCl : List (Nat × Nat × Nat) := [(0, 0, 1), (0, 1, 2), (0, 2, 4), (0, 3, 5), (0, 4, 6), (0, 5, 7), (0, 6, 11), (0, 7, 15), (0, 8, 16), (0, 9, 18), (0, 10, 20), (0, 11, 22), (0, 12, 23), (2, 0, 1), (2, 1, 3), (7, 0, 8), (7, 1, 9), (7, 2, 10), (11, 0, 4), (11, 1, 5), (11, 2, 6), (11, 3, 7), (11, 4, 12), (11, 5, 13), (11, 6, 14), (16, 1, 17), (18, 1, 19), (20, 1, 21)]
def hC (S : HS) : Prop := 65 ≤ gZ S ∧ (∀ c, c < 24 → gK S c = KCl.getD c 99) ∧ (∀ c, c < 24 → gN S c = NCl.getD c 0) ∧ (∀ q ∈ RCl, gR S q.1 q.2.1 = some q.2.2) ∧ (∀ c, 24 ≤ c → c < 65 → gK S c = 99)
theorem hCk {S : HS} (h : hC S) (c : Nat) (hc : c < 24) {κ : Nat} (e : KCl.getD c 99 = κ) : gK S c = κ := by rw [h.2.1 c hc]; exact e
theorem hCn {S : HS} (h : hC S) (c : Nat) (hc : c < 24) {κ : Nat} (e : NCl.getD c 0 = κ) : gN S c = κ := by rw [h.2.2.1 c hc]; exact e
theorem hCr {S : HS} (h : hC S) {c k d : Nat} (hm : (c, k, d) ∈ RCl) : gR S c k = some d := h.2.2.2.1 _ hm
theorem RCl_k : ∀ q ∈ RCl, q.1 < 24 ∧ (KCl.getD q.1 99 = 9 ∨ KCl.getD q.1 99 = 5 ∨ KCl.getD q.1 99 = 7 ∨ KCl.getD q.1 99 = 8 ∨ KCl.getD q.1 99 = 6) := by decide
theorem hC_sR {S : HS} (h : hC S) {c k κ : Nat} {v : Option Nat} (hk : gK S c = κ) (hκ : κ ≠ 9 ∧ κ ≠ 5 ∧ κ ≠ 7 ∧ κ ≠ 8 ∧ κ ≠ 6) : hC (sR S c k v) := by
  refine ⟨h.1, h.2.1, h.2.2.1, fun q hq => ?_, h.2.2.2.2⟩
  rw [gR_sR, if_neg]
  · exact h.2.2.2.1 q hq
  · intro z
    obtain ⟨h1, h2⟩ := RCl_k q hq
    have h3 := h.2.1 q.1 h1
    rw [z.1, hk] at h3
    rw [z.1] at h2
    omega
section HROWS3
variable {p : Program} {l : Launch} {e : Env} {R : Room} {s : State} {m : MethodId} {args : Array Value} {below : List Frame} {meth : Method} {c : Code} {H : Heap} {locs : List Loc} {cells slots : Nat} {Q : State → Prop}
variable {cc : ByteArray} {nL : Nat} {ret : Option FieldType} {own : String} {pc : Nat} {ls : Array Slot} {rest : List Value} {D : va_G} {cy : Nat → ClassId} {A : Nat → Prop} {ad av : Nat → Nat} {B : Nat} {ex : Bool} {G : HS → Prop} {S : HS} {H0 : Heap}
theorem lv_reno {x y : Option Nat} (h : x = y) (k : W p l e R s m args below meth c H locs cells slots Q (F0 m pc ls (va_rf (y.map (B + ·)) :: rest))) : W p l e R s m args below meth c H locs cells slots Q (F0 m pc ls (va_rf (x.map (B + ·)) :: rest)) := h ▸ k
theorem r_sret {rt : String} (X : hCX p s m args meth c own cc nL (some (.object rt)) D cy A ad av) (hw : hWd D B cy A ex G S s.heap H locs) {v : Nat} (hd : decode cc pc = .ok (.areturn, 1)) : W p l e R s m args below meth c H locs cells slots (MQ below (hQo D B cy A ex G S (some (.ref (ad v)))) args s cells slots A) (F0 m pc ls [.ref (ad v)]) :=
  W.aret X.1 X.2.1 X.2.2.2.2.2.2.2.1 (Or.inl ⟨_, rfl⟩) (Or.inr ⟨_, rfl⟩) (h_end hw) hw.2.2.1.2.2 hd X.2.2.2.2.2.2.2.2
end HROWS3
