def lastP (q : Nat → Prop) [DecidablePred q] : Nat → Int32
  | 0 => -1
  | m + 1 => if q m then nI m else lastP q m
def mix (h : Nat → Int32) : Nat → Int32
  | 0 => 0
  | p + 1 => ((mix h p ^^^ h p) * (-1640531535 : Int32)) ^^^ (((mix h p ^^^ h p) * (-1640531535 : Int32)).toUInt32 >>> ((15 : Int32).toUInt32 &&& Int32.toUInt32 31)).toInt32
def bkI (P : Nat) (h : Nat → Int32) : Int32 := ((mix h P * (-1640531535 : Int32)).toUInt32 >>> ((22 : Int32).toUInt32 &&& Int32.toUInt32 31)).toInt32
def bk (P : Nat) (h : Nat → Int32) : Nat := (bkI P h).toBitVec.toNat
/-- marking i of the list is h -/
def SM (P : Nat) (cells h : Nat → Int32) (i : Nat) : Prop := ∀ p, p < P → cells (i * P + p) = h p
def cB (P : Nat) (cells : Nat → Int32) (i : Nat) : Nat := bk P (fun p => cells (i * P + p))
def hx (P n : Nat) (cells heads links : Nat → Int32) : Prop :=
  (∀ b, b < 1024 → heads b = lastP (fun i => cB P cells i = b) n) ∧ ∀ i, i < n → links i = lastP (fun j => cB P cells j = cB P cells i) i
def LL (P : Nat) (f g : Nat → Int32) : Prop := ∃ p, p < P ∧ (∀ q, q < p → f q = g q) ∧ f p < g p
/-- marking i of the reference's field -/
def mR (field : Nat → Int32) (i : Nat) : Nat → Int32 := fun p => field (16 * i + p)
/-- the order: every marking once, rising -/
def oR (P n : Nat) (field order : Nat → Int32) : Prop :=
  ∃ o : Nat → Nat, (∀ k, k < n → o k < n ∧ order k = nI (o k)) ∧ (∀ i, i < n → ∃ k, k < n ∧ o k = i) ∧ ∀ k l, k < l → l < n → LL P (mR field (o k)) (mR field (o l))
/-- the goings turned round: at each marking the last one that comes in, at each going the one before it -/
def tnd (S n : Nat) (nexts firstIn otherIn : Nat → Int32) : Prop :=
  (∀ j, j < n → firstIn j = lastP (fun e => nexts e = nI j) (n * S)) ∧ ∀ e j, e < n * S → j < n → nexts e = nI j → otherIn e = lastP (fun e' => nexts e' = nI j) e
def an (former : Nat → Int32) : Nat → Nat → Nat
  | 0, i => i
  | k + 1, i => (former (an former k i)).toNatClampNeg
/-- node a is nowhere above what the step to node i brings, and somewhere below it -/
def LSS (P : Nat) (by_ cells former pt tk : Nat → Int32) (i a : Nat) : Prop :=
  (∀ p, p < P → cells (a * P + p) ≤ cells (an former 1 i * P + p) + (pt (16 * (by_ i).toNatClampNeg + p) - tk (16 * (by_ i).toNatClampNeg + p))) ∧ ∃ p, p < P ∧ cells (a * P + p) < cells (an former 1 i * P + p) + (pt (16 * (by_ i).toNatClampNeg + p) - tk (16 * (by_ i).toNatClampNeg + p))
def tEnd (P n : Nat) (eN eB : Int32) (by_ cells former pt tk : Nat → Int32) : Prop :=
  (eN = -1 ∧ ∀ i p, i < n → p < P → ¬ cells (i * P + p) = 2147483647) ∨
  ∃ i k : Nat, 0 < i ∧ i < n ∧ eN = nI i ∧ eB = nI (an former (k + 1) i) ∧ (∀ j p, j < i → p < P → ¬ cells (j * P + p) = 2147483647) ∧ (∃ p, p < P ∧ cells (i * P + p) = 2147483647) ∧ (∀ m, m < k → ¬ LSS P by_ cells former pt tk i (an former (m + 1) i)) ∧ LSS P by_ cells former pt tk i (an former (k + 1) i)
/-! the relations with what the look-ups need -/
def fRl (P S n : Nat) (turned : Int32) (by_ cells former heads links firstIn nexts otherIn mby mfield mformer mnext morder : Nat → Int32) : Prop :=
  (1 ≤ n ∧ n ≤ 8000) ∧
  (∀ i p, i < n → p < P → cells (i * P + p) = mfield (16 * i + p)) ∧
  (∀ i s, i < n → s < S → nexts (i * S + s) = mnext (16 * i + s) ∧ (nexts (i * S + s) = NONE ∨ ∃ j : Nat, j < n ∧ nexts (i * S + s) = nI j)) ∧
  (former 0 = NONE ∧ by_ 0 = NONE ∧ mformer 0 = NONE ∧ mby 0 = NONE) ∧
  (∀ i, 0 < i → i < n → ∃ j s : Nat, j < i ∧ s < S ∧ former i = nI j ∧ mformer i = nI j ∧ by_ i = nI s ∧ mby i = nI s) ∧
  (∀ i j, i < n → j < n → (∀ p, p < P → cells (i * P + p) = cells (j * P + p)) → i = j) ∧
  hx P n cells heads links ∧ oR P n mfield morder ∧ (turned = 0 ∨ (turned = 1 ∧ tnd S n nexts firstIn otherIn))
def cFld (P S : Nat) (made turned steps width size : Int32) (by_ cells former heads links firstIn nexts otherIn : Nat → Int32) (hasF fsz : Int32) (mby mfield mformer mnext morder : Nat → Int32) : Prop :=
  (made = 0 ∧ hasF = 0 ∧ fsz = 0) ∨
  (made = 1 ∧ hasF = 1 ∧ ∃ n : Nat, size = nI n ∧ fsz = nI n ∧ width = nI P ∧ steps = nI S ∧ fRl P S n turned by_ cells former heads links firstIn nexts otherIn mby mfield mformer mnext morder)
/-- the tree: -1 on one side is the greatest int on the other -/
def tRl (P S : Nat) (pt tk : Nat → Int32) (n : Nat) (eN eB : Int32) (by_ cells former leaves mabove mstep mleaf mnodes : Nat → Int32) : Prop :=
  (1 ≤ n ∧ n ≤ 2000) ∧
  (∀ i p, i < n → p < P → (cells (i * P + p) = 2147483647 ∧ mnodes (16 * i + p) = -1) ∨ ∃ v : Nat, v < 2000000000 ∧ cells (i * P + p) = nI v ∧ mnodes (16 * i + p) = nI v) ∧
  (former 0 = NONE ∧ by_ 0 = NONE ∧ mabove 0 = NONE ∧ mstep 0 = NONE) ∧
  (∀ i, 0 < i → i < n → ∃ j s : Nat, j < i ∧ s < S ∧ former i = nI j ∧ mabove i = nI j ∧ by_ i = nI s ∧ mstep i = nI s) ∧
  (∀ i, i < n → leaves i = mleaf i ∧ (leaves i = 0 ∨ leaves i = 1)) ∧
  tEnd P n eN eB by_ cells former pt tk
def cTre (P S : Nat) (pt tk : Nat → Int32) (made eN eB width size : Int32) (by_ cells former leaves : Nat → Int32) (hasT tsz : Int32) (mabove mstep mleaf mnodes : Nat → Int32) : Prop :=
  (made = 0 ∧ hasT = 0 ∧ tsz = 0) ∨
  (made = 1 ∧ hasT = 1 ∧ ∃ n : Nat, size = nI n ∧ tsz = nI n ∧ width = nI P ∧ tRl P S pt tk n eN eB by_ cells former leaves mabove mstep mleaf mnodes)
def Inw (XI : Nat → Int32) (XA : Nat → Nat → Int32) (XL : Nat → Nat → Int64) (MI : Nat → Int32) (MA : Nat → Nat → Int32) (ML : Nat → Nat → Int64) : Prop :=
  ∃ P S : Nat, eqNet P S XI XA MI MA ∧
    cNet P S (XA 13) (XA 16) (XA 17) (XA 14) (XA 12) (XA 9) (XA 19) (XA 10) (XA 18) (XA 15) (XA 11) (XI 11) ∧
    cNow P (XA 13) (XA 20) (XL 1) (MA 11) (MA 30) ∧
    cPast P S (XA 13) (XA 17) (XA 14) (XI 11) (XL 1) (MA 11) (XI 16) (XI 17) (XA 25) (XL 4) (MI 2) (MI 3) (MA 21) (MA 22) (MA 23) ∧
    cHand S (XI 7) (XI 8) (XA 7) (XA 8) (MI 5) (MI 6) (MA 26) (MA 32) ∧
    (XI 0 = MI 4 ∧ XI 1 = MI 9) ∧
    cFld P S (XI 18) (XI 19) (XI 20) (XI 21) (XI 22) (XA 26) (XA 27) (XA 28) (XA 29) (XA 30) (XA 31) (XA 34) (XA 35) (MI 7) (MI 8) (MA 3) (MA 7) (MA 8) (MA 17) (MA 20) ∧
    cTre P S (XA 14) (XA 17) (XI 2) (XI 3) (XI 4) (XI 5) (XI 6) (XA 2) (XA 3) (XA 4) (XA 1) (MI 10) (MI 11) (MA 0) (MA 28) (MA 13) (MA 18) ∧
    cBal P (XI 13) (XA 21) (MI 12) (MA 33) ∧
    cBal S (XI 15) (XA 23) (MI 13) (MA 25) ∧
    cSets (XI 23) (XA 38) (MI 14) (MA 9)
