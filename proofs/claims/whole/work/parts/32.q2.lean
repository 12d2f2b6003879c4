/-! the relation of the two sides -/
def qA (S : HS) : Nat := Int32.toNatClampNeg (gI S 0 7)
def qP (S : HS) : Nat := Int32.toNatClampNeg (gI S 0 28)
def qN (S : HS) : Nat := Int32.toNatClampNeg (gI S 0 34)
def qF (S : HS) (a : Nat) : Nat := Int32.toNatClampNeg (gI S 3 a)
def qL (S : HS) (a : Nat) : Nat := Int32.toNatClampNeg (gI S 4 a)
def qK (S : HS) (n : Nat) : Nat := Int32.toNatClampNeg (gI S 5 n)
/-- a line of the reference as it must be -/
def LOK (S : HS) (n : Nat) : Prop := vp_in (gI S 5 n) 156 ∧ (gI S 6 n = 0 ∨ gI S 6 n = 1) ∧ (gI S 7 n = -1 ∨ vp_in (gI S 7 n) 6) ∧
  (gI S 6 n = 0 → (qK S n / 26 ≠ 2 → vp_in (gI S 10 n) 10000) ∧ (gI S 11 n = 0 ∨ gI S 11 n = 1) ∧ (gI S 11 n = 1 → vp_in (gI S 10 n) 1000) ∧ (qK S n = 78 → gI S 10 n ≠ 0) ∧
    (qK S n / 26 = 2 → 1 ≤ Int32.toNatClampNeg (gI S 13 n) ∧ vp_in (gI S 13 n) 9 ∧ ∀ j, j < Int32.toNatClampNeg (gI S 13 n) → vp_in (gI S 12 (8 * n + j)) 10000))
/-- a value that a note may tell -/
def VOK (w v : Int32) : Prop := (w = 6 ∨ w = 8 → v = 0 ∨ v = 1) ∧ (w = 7 → vp_in v 89 ∧ 1 ≤ Int32.toNatClampNeg v % 10 ∧ Int32.toNatClampNeg v % 10 ≤ 8 ∧ Int32.toNatClampNeg v / 10 ≤ Int32.toNatClampNeg v % 10)
def NOK (S : HS) (k : Nat) : Prop := vp_in (gI S 15 k) (qP S) ∧ vp_in (gI S 16 k) 9 ∧ vp_in (gI S 17 k) 1200 ∧ VOK (gI S 16 k) (gI S 19 k)
/-- agreements, lines, notes and posts of the reference as they must be -/
def DOK (S : HS) : Prop := vp_in (gI S 0 7) 13 ∧ vp_in (gI S 0 28) 9 ∧ vp_in (gI S 0 34) 201 ∧
  (∀ a, a < qA S → vp_in (gI S 3 a) 1200) ∧ gI S 4 0 = 0 ∧ (∀ a, a ≤ qA S → vp_in (gI S 4 a) 481) ∧ (∀ a, a < qA S → qL S a ≤ qL S (a + 1) ∧ qL S (a + 1) ≤ qL S a + 40) ∧
  (∀ n, n < qL S (qA S) → LOK S n) ∧ (∀ k, k < qN S → NOK S k) ∧ (∀ p, p < 8 → vp_in (gI S 14 p) 8)
/-- the rest of the reference as it must be -/
def EOK (S : HS) : Prop := vp_in (gI S 0 3) 1200 ∧ vp_in (gI S 0 2) 2001 ∧ vp_in (gI S 0 54) 321 ∧ vp_in (gI S 0 57) 29 ∧ vp_in (gI S 0 59) 157
/-- an ArrayList of the class holds these objects -/
def JL (S : HS) (c : Nat) (xs : List Nat) : Prop := gK S c = 0 ∧ gI S c 2 = nI xs.length ∧ ∀ i, i < xs.length → ∃ d, gR S c 1 = some d ∧ gK S d = 25 ∧ xs.length ≤ gN S d ∧ gR S d i = some (xs.getD i 0)
/-- the same for a list that grows: its array is its own, room is left, and what lies in it is known -/
def JG (S : HS) (c M : Nat) (xs : List Nat) : Prop := gK S c = 0 ∧ gI S c 2 = nI xs.length ∧
  ((gR S c 1 = none ∧ xs = []) ∨ ∃ d, gR S c 1 = some d ∧ 65 ≤ d ∧ gK S d = 25 ∧ 2 ≤ gN S d ∧ gN S d ≤ M ∧ xs.length ≤ gN S d ∧ hEl S d ∧ ∀ i, i < xs.length → gR S d i = some (xs.getD i 0))
/-- a line's object -/
def LRel (SC SM : HS) (o n : Nat) : Prop := 65 ≤ o ∧ gK SC o = 3 ∧ gI SC o 0 = nI (qK SM n / 26) ∧ gI SC o 4 = nI (qK SM n % 26) ∧ gI SC o 1 = gI SM 6 n ∧ gI SC o 5 = gI SM 7 n ∧
  (gI SM 7 n ≠ -1 → gI SC o 6 = gI SM 8 n ∧ gI SC o 7 = gI SM 9 n) ∧
  (gI SM 6 n = 0 → (qK SM n / 26 ≠ 2 → gI SC o 8 = gI SM 10 n) ∧ gI SC o 9 = gI SM 11 n ∧
    (qK SM n / 26 = 2 → gI SC o 3 = gI SM 13 n ∧ ∃ d, gR SC o 2 = some d ∧ 65 ≤ d ∧ gK SC d = 21 ∧ gN SC d = 8 ∧ ∀ j, j < Int32.toNatClampNeg (gI SM 13 n) → gI SC d j = gI SM 12 (8 * n + j)))
/-- an agreement's object -/
def ARel (SC SM : HS) (oL : Nat → Nat) (o a : Nat) : Prop := 65 ≤ o ∧ gK SC o = 1 ∧ gI SC o 0 = nI a ∧ gI SC o 1 = gI SM 3 a ∧ gI SC o 2 = gI SM 2 a ∧
  ∃ l, gR SC o 3 = some l ∧ 65 ≤ l ∧ gK SC l = 0 ∧ gI SC l 2 = nI (qL SM (a + 1) - qL SM a) ∧ ∃ d, 65 ≤ d ∧ gR SC 4 1 ≠ some d ∧ gR SC 5 1 ≠ some d ∧ ∀ n, qL SM a ≤ n → n < qL SM (a + 1) → gR SC l 1 = some d ∧ gK SC d = 25 ∧ qL SM (a + 1) - qL SM a ≤ gN SC d ∧ gR SC d (n - qL SM a) = some (oL n)
/-- a note's object -/
def NRel (SC SM : HS) (o k : Nat) : Prop := 65 ≤ o ∧ gK SC o = 4 ∧ gI SC o 0 = gI SM 15 k ∧ gI SC o 1 = gI SM 16 k ∧ gI SC o 2 = gI SM 17 k ∧ gI SC o 3 = gI SM 18 k ∧ gI SC o 4 = gI SM 19 k
/-- the winner among lines, each with its agreement, for one key: the reference's way -/
def wMax (S : HS) (day : Nat) (K : Int32) (k : Nat) (w : Option (Nat × Nat)) (q : Nat × Nat) : Option (Nat × Nat) :=
  if qK S q.2 = k ∧ gI S 2 q.1 ≤ K ∧ qF S q.1 ≤ day then (match w with | none => some q | some b => if qF S b.1 ≤ qF S q.1 then some q else w) else w
/-- the same for agreements that come in the order of their days -/
def wLast (S : HS) (day : Nat) (K : Int32) (k : Nat) (w : Option (Nat × Nat)) (q : Nat × Nat) : Option (Nat × Nat) :=
  if qK S q.2 = k ∧ gI S 2 q.1 ≤ K ∧ qF S q.1 ≤ day then some q else w
/-- the lines of an agreement -/
def lns (S : HS) (a : Nat) : List (Nat × Nat) := (List.range (qL S (a + 1) - qL S a)).map (fun i => (a, qL S a + i))
def wins (S : HS) (day : Nat) (K : Int32) (k : Nat) : Option (Nat × Nat) := ((List.range (qA S)).flatMap (lns S)).foldl (wMax S day K k) none
/-- agreements and notes of the class: the reference's, by the day from which they hold -/
def ORel (SM : HS) (LA NL : List Nat) : Prop := LA.Perm (List.range (qA SM)) ∧ LA.Pairwise (fun a b => qF SM a ≤ qF SM b) ∧ (∀ day K k, (LA.flatMap (lns SM)).foldl (wLast SM day K k) none = wins SM day K k) ∧
  NL.Perm (List.range (qN SM)) ∧ NL.Pairwise (fun a b => Int32.toNatClampNeg (gI SM 17 a) ≤ Int32.toNatClampNeg (gI SM 17 b)) ∧ ∀ d : Nat, NL.filter (fun k => Int32.toNatClampNeg (gI SM 17 k) == d) = (List.range (qN SM)).filter (fun k => Int32.toNatClampNeg (gI SM 17 k) == d)
/-- what the days need -/
def DRel (SC SM : HS) (LA NL : List Nat) (oA oL oN : Nat → Nat) : Prop := hC SC ∧ hFr SC ∧ DOK SM ∧ ORel SM LA NL ∧
  JG SC 4 80 (LA.map oA) ∧ JG SC 5 300 (NL.map oN) ∧ (∀ d, gR SC 4 1 = some d → gR SC 5 1 ≠ some d) ∧
  (∀ a, a < qA SM → ARel SC SM oL (oA a) a) ∧ (∀ n, n < qL SM (qA SM) → LRel SC SM (oL n) n) ∧ (∀ k, k < qN SM → NRel SC SM (oN k) k) ∧
  gI SC 0 16 = gI SM 0 28 ∧ (∀ p, p < 8 → gI SC 6 p = gI SM 14 p)
/-- what the other answers need -/
def ERel (SC SM : HS) : Prop := EOK SM ∧ gI SC 0 13 = gI SM 0 3 ∧ gI SC 0 14 = gI SM 0 2 ∧ gI SC 0 15 = gI SM 4 (qA SM) ∧ gI SC 0 17 = gI SM 0 55 ∧ (∀ j, j < 2000 → gI SC 1 j &&& 255 = gI SM 1 j) ∧ gI SC 2 6 = gI SM 0 24 ∧ gI SC 2 7 = gI SM 0 25 ∧
  (∀ j, j < 320 → gJ SC 15 j = gJ SM 35 j) ∧ gI SC 16 0 = 3 ∧ gI SC 18 0 = 4 ∧ gI SC 20 0 = 4 ∧ gI SC 16 2 = gI SM 0 54 ∧ gI SC 18 2 = gI SM 0 57 ∧ gI SC 20 2 = gI SM 0 59 ∧
  (∀ k, k < Int32.toNatClampNeg (gI SM 0 54) → gJ SC 17 (3 * k) = (gI SM 36 k).toInt64 ∧ gJ SC 17 (3 * k + 1) = (gI SM 37 k).toInt64 ∧ gJ SC 17 (3 * k + 2) = gJ SM 38 k) ∧
  (∀ k j, k < Int32.toNatClampNeg (gI SM 0 57) → j < 4 → gJ SC 19 (4 * k + j) = (gI SM 39 (4 * k + j)).toInt64) ∧
  (∀ k j, k < Int32.toNatClampNeg (gI SM 0 59) → j < 4 → gJ SC 21 (4 * k + j) = (gI SM 40 (4 * k + j)).toInt64)
def RR (_ : Nat) (SC SM : HS) : Prop := ERel SC SM ∧ ∃ (LA NL : List Nat) (oA oL oN : Nat → Nat), DRel SC SM LA NL oA oL oN
