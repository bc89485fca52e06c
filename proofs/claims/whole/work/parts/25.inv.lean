/-! ===== Int32 by its bits: bt x i ===== -/
def bt (x : Int32) (i : Nat) : Bool := x.toBitVec.getLsbD i
theorem b_ext {x y : Int32} (h : ∀ i, i < 32 → bt x i = bt y i) : x = y := Int32.toBitVec_inj.mp (BitVec.eq_of_getLsbD_eq (fun i hi => h i hi))
theorem b_or (x y : Int32) (i : Nat) : bt (x ||| y) i = (bt x i || bt y i) := by unfold bt; rw [Int32.toBitVec_or, BitVec.getLsbD_or]
theorem b_and (x y : Int32) (i : Nat) : bt (x &&& y) i = (bt x i && bt y i) := by unfold bt; rw [Int32.toBitVec_and, BitVec.getLsbD_and]
theorem b_xor (x y : Int32) (i : Nat) : bt (x ^^^ y) i = (bt x i ^^ bt y i) := by unfold bt; rw [Int32.toBitVec_xor, BitVec.getLsbD_xor]
theorem b_big {x : Int32} {i : Nat} (h : 32 ≤ i) : bt x i = false := BitVec.getLsbD_of_ge _ _ h
theorem b_255 (i : Nat) : bt 255 i = decide (i < 8) := by
  rcases Nat.lt_or_ge i 32 with h | h
  · exact (by decide +kernel : ∀ i, i < 32 → bt 255 i = decide (i < 8)) i h
  · rw [b_big h, decide_eq_false (by omega)]
theorem b_65535 (i : Nat) : bt 65535 i = decide (i < 16) := by
  rcases Nat.lt_or_ge i 32 with h | h
  · exact (by decide +kernel : ∀ i, i < 32 → bt 65535 i = decide (i < 16)) i h
  · rw [b_big h, decide_eq_false (by omega)]
theorem b_m1 : ∀ i, i < 32 → bt (-1) i = true := by decide +kernel
theorem b_0 (i : Nat) : bt 0 i = false := BitVec.getLsbD_zero
theorem s_l : ∀ n, n < 32 → ((nI n &&& 31).toBitVec.smod 32).toNat = n := by decide +kernel
theorem s_u : ∀ n, n < 32 → (((nI n).toUInt32 &&& Int32.toUInt32 31).toBitVec % 32).toNat = n := by decide +kernel
theorem b_shl (n : Nat) (hn : n < 32) (x : Int32) {i : Nat} (hi : i < 32) : bt (x <<< (nI n &&& 31)) i = (decide (n ≤ i) && bt x (i - n)) := by
  unfold bt
  rw [Int32.toBitVec_shiftLeft]
  show (x.toBitVec <<< ((nI n &&& 31).toBitVec.smod 32).toNat).getLsbD i = _
  rw [s_l n hn, BitVec.getLsbD_shiftLeft]
  rcases Nat.lt_or_ge i n with h | h
  · simp [h, Nat.not_le.mpr h]
  · simp [hi, h, Nat.not_lt.mpr h]
theorem b_ushr (n : Nat) (hn : n < 32) (x : Int32) (i : Nat) : bt ((x.toUInt32 >>> ((nI n).toUInt32 &&& Int32.toUInt32 31)).toInt32) i = bt x (n + i) := by
  show (x.toUInt32 >>> ((nI n).toUInt32 &&& Int32.toUInt32 31)).toBitVec.getLsbD i = x.toUInt32.toBitVec.getLsbD (n + i)
  rw [UInt32.toBitVec_shiftRight]
  show (x.toUInt32.toBitVec >>> (((nI n).toUInt32 &&& Int32.toUInt32 31).toBitVec % 32).toNat).getLsbD i = _
  rw [s_u n hn, BitVec.getLsbD_ushiftRight]
theorem b_sshr (n : Nat) (hn : n < 32) (x : Int32) {i : Nat} (hi : i < 32) : bt (x >>> (nI n &&& 31)) i = if n + i < 32 then bt x (n + i) else bt x 31 := by
  unfold bt
  rw [Int32.toBitVec_shiftRight]
  show (x.toBitVec.sshiftRight ((nI n &&& 31).toBitVec.smod 32).toNat).getLsbD i = _
  rw [s_l n hn, BitVec.getLsbD_sshiftRight, BitVec.msb_eq_getLsbD_last]
  simp [hi]
/-! ===== the relation between the two states ===== -/
def cCount (pk : Nat → Int32) : Nat → Nat
  | 0 => 0
  | n + 1 => cCount pk n + (if pk n = 1 then 1 else 0)
/-- the net: ranges, nothing outside, sets of places as bits -/
def cNet (P S : Nat) (pk sk tk pt nd cl wt gf tf pi hd : Nat → Int32) (co : Int32) : Prop :=
  (P ≤ 16 ∧ S ≤ 16) ∧
  (∀ p, p < P → pk p = 0 ∨ pk p = 1) ∧
  (∀ s, s < S → ∃ k : Nat, k ≤ 3 ∧ sk s = nI k) ∧
  (∀ i, i < 256 → ∃ v : Nat, v ≤ 9 ∧ tk i = nI v) ∧
  (∀ i, i < 256 → ∃ v : Nat, v ≤ 9 ∧ pt i = nI v) ∧
  (∀ i, i < 256 → ∃ v : Nat, v ≤ 9 ∧ nd i = nI v) ∧
  (∀ i, i < 256 → cl i = 0 ∨ cl i = 1) ∧
  (∀ i, i < 256 → ∃ v : Nat, v ≤ 3 ∧ wt i = nI v) ∧
  (∀ i, i < 256 → ∃ v : Nat, v ≤ 3 ∧ gf i = nI v) ∧
  (∀ s p, s < 16 → p < 16 → (S ≤ s ∨ P ≤ p) → tk (16 * s + p) = 0 ∧ pt (16 * s + p) = 0 ∧ nd (16 * s + p) = 0 ∧ cl (16 * s + p) = 0) ∧
  (∀ s p, s < S → p < 16 → (sk s < 1 → nd (16 * s + p) = 0) ∧ (sk s < 2 → cl (16 * s + p) = 0)) ∧
  (∀ s, s < 16 → ∀ i, i < 32 → bt (tf s) i = decide (i < 16 ∧ ¬ tk (16 * s + i) = 0)) ∧
  (∀ s, s < 16 → ∀ i, i < 32 → bt (pi s) i = decide (i < 16 ∧ ¬ pt (16 * s + i) = 0)) ∧
  (∀ s, s < 16 → ∀ i, i < 32 → bt (hd s) i = decide (i < 16 ∧ (¬ tk (16 * s + i) = 0 ∨ ¬ nd (16 * s + i) = 0 ∨ ¬ cl (16 * s + i) = 0))) ∧
  co = nI (cCount pk P)
/-- what there is: marks; of coloured places the things, packed on one side, in a row on the other -/
def cNow (P : Nat) (pk many : Nat → Int32) (things : Nat → Int64) (has mth : Nat → Int32) : Prop :=
  ∀ p, p < 16 → many p = has p ∧ ∃ v : Nat, has p = nI v ∧ v ≤ 1000000000 ∧ (P ≤ p → v = 0 ∧ things p = 0) ∧
    (p < P → pk p = 1 → v ≤ 20 ∧ ∃ t : Nat, things p = lN t ∧ t < 4 ^ v ∧ ∀ i, i < v → mth (20 * p + i) = nI (t / 4 ^ i % 4))
def cPast (P S : Nat) (pk tk pt : Nat → Int32) (co : Int32) (things : Nat → Int64) (has : Nat → Int32) (sz en : Int32) (steps : Nat → Int32) (pth : Nat → Int64) (first past : Int32) (phas pstep pths : Nat → Int32) : Prop :=
  ∃ K E F : Nat, K ≤ 256 ∧ E < 256 ∧ F < 256 ∧ sz = nI K ∧ past = nI K ∧ en = nI E ∧ first = nI F ∧
    ∀ k, k < K → ∃ s : Nat, s < S ∧ steps ((E + 256 - K + k) % 256) = nI s ∧ pstep ((F + k) % 256) = nI s ∧
      cNow P pk (fun p => phas (16 * ((F + k) % 256) + p)) (fun p => if co = 0 then things p else pth (16 * ((E + 256 - K + k) % 256) + p)) (fun p => phas (16 * ((F + k) % 256) + p)) (fun i => pths (320 * ((F + k) % 256) + i)) ∧
      ∀ p, p < P → (if k + 1 < K then phas (16 * ((F + k + 1) % 256) + p) else has p) = phas (16 * ((F + k) % 256) + p) + (pt (16 * s + p) - tk (16 * s + p))
/-- in hand: the row, the way -/
def cHand (S : Nat) (rs ws : Int32) (row way : Nat → Int32) (rs2 ws2 : Int32) (row2 way2 : Nat → Int32) : Prop :=
  ∃ R n : Nat, R ≤ 16 ∧ n ≤ 8000 ∧ rs = nI R ∧ rs2 = nI R ∧ ws = nI n ∧ ws2 = nI n ∧ (∀ i, i < 16 → row i = row2 i) ∧ (∀ i, i < n → way i = way2 i ∧ ∃ s : Nat, s < S ∧ way i = nI s)
def NONE : Int32 := -2000000005
/-- a list of markings with what each came by; the way to look one up on either side -/
def fSame (P : Nat) (cells : Nat → Int32) (n i : Nat) (f : Nat → Int32) : Prop := ∀ p, p < P → cells (i * P + p) = f p
def fRel (P S n : Nat) (turned : Int32) (by_ cells former heads links firstIn nexts otherIn mby mfield mformer mnext morder : Nat → Int32) : Prop :=
  (1 ≤ n ∧ n ≤ 8000) ∧
  (∀ i p, i < n → p < P → cells (i * P + p) = mfield (16 * i + p)) ∧
  (∀ i s, i < n → s < S → nexts (i * S + s) = mnext (16 * i + s) ∧ (nexts (i * S + s) = NONE ∨ ∃ j : Nat, j < n ∧ nexts (i * S + s) = nI j)) ∧
  (former 0 = NONE ∧ by_ 0 = NONE ∧ mformer 0 = NONE ∧ mby 0 = NONE) ∧
  (∀ i, 0 < i → i < n → ∃ j s : Nat, j < i ∧ s < S ∧ former i = nI j ∧ mformer i = nI j ∧ by_ i = nI s ∧ mby i = nI s) ∧
  (∀ i j, i < n → j < n → (∀ p, p < P → cells (i * P + p) = cells (j * P + p)) → i = j) ∧
  True
def cField (P S : Nat) (made turned steps width size : Int32) (by_ cells former heads links firstIn nexts otherIn : Nat → Int32) (hasF fsz : Int32) (mby mfield mformer mnext morder : Nat → Int32) : Prop :=
  (made = 0 ∧ hasF = 0 ∧ fsz = 0) ∨
  (made = 1 ∧ hasF = 1 ∧ ∃ n : Nat, size = nI n ∧ fsz = nI n ∧ width = nI P ∧ steps = nI S ∧ fRel P S n turned by_ cells former heads links firstIn nexts otherIn mby mfield mformer mnext morder)
/-- the tree: -1 on one side is the greatest int on the other -/
def tRel (P S n : Nat) (eN eB : Int32) (by_ cells former leaves mabove mstep mleaf mnodes : Nat → Int32) : Prop :=
  (1 ≤ n ∧ n ≤ 2000) ∧
  (∀ i p, i < n → p < P → (cells (i * P + p) = 2147483647 ∧ mnodes (16 * i + p) = -1) ∨ ∃ v : Nat, v < 2000000000 ∧ cells (i * P + p) = nI v ∧ mnodes (16 * i + p) = nI v) ∧
  (former 0 = NONE ∧ by_ 0 = NONE ∧ mabove 0 = NONE ∧ mstep 0 = NONE) ∧
  (∀ i, 0 < i → i < n → ∃ j s : Nat, j < i ∧ s < S ∧ former i = nI j ∧ mabove i = nI j ∧ by_ i = nI s ∧ mstep i = nI s) ∧
  (∀ i, i < n → leaves i = mleaf i ∧ (leaves i = 0 ∨ leaves i = 1)) ∧
  True
def cTree (P S : Nat) (made eN eB width size : Int32) (by_ cells former leaves : Nat → Int32) (hasT tsz : Int32) (mabove mstep mleaf mnodes : Nat → Int32) : Prop :=
  (made = 0 ∧ hasT = 0 ∧ tsz = 0) ∨
  (made = 1 ∧ hasT = 1 ∧ ∃ n : Nat, size = nI n ∧ tsz = nI n ∧ width = nI P ∧ tRel P S n eN eB by_ cells former leaves mabove mstep mleaf mnodes)
def cBal (B : Nat) (sz : Int32) (found : Nat → Int32) (sz2 : Int32) (found2 : Nat → Int32) : Prop := ∃ n : Nat, n ≤ 16 ∧ sz = nI n ∧ sz2 = nI n ∧ ∀ k p, k < n → p < B → found (16 * k + p) = found2 (16 * k + p)
def cSets (sz : Int32) (sets : Nat → Int32) (sz2 : Int32) (found : Nat → Int32) : Prop := ∃ n : Nat, n ≤ 500 ∧ sz = nI n ∧ sz2 = nI n ∧ ∀ k, k < n → sets k = found k
def eqNet (P S : Nat) (XI : Nat → Int32) (XA : Nat → Nat → Int32) (MI : Nat → Int32) (MA : Nat → Nat → Int32) : Prop :=
  XI 9 = nI P ∧ MI 0 = nI P ∧ XI 10 = nI S ∧ MI 1 = nI S ∧ MA 5 = XA 13 ∧ MA 27 = XA 16 ∧ MA 29 = XA 17 ∧ MA 24 = XA 14 ∧ MA 16 = XA 12 ∧ MA 4 = XA 9 ∧ MA 31 = XA 19 ∧ MA 10 = XA 10
def Inv (XI : Nat → Int32) (XA : Nat → Nat → Int32) (XL : Nat → Nat → Int64) (MI : Nat → Int32) (MA : Nat → Nat → Int32) (ML : Nat → Nat → Int64) : Prop :=
  ∃ P S : Nat, eqNet P S XI XA MI MA ∧
    cNet P S (XA 13) (XA 16) (XA 17) (XA 14) (XA 12) (XA 9) (XA 19) (XA 10) (XA 18) (XA 15) (XA 11) (XI 11) ∧
    cNow P (XA 13) (XA 20) (XL 1) (MA 11) (MA 30) ∧
    cPast P S (XA 13) (XA 17) (XA 14) (XI 11) (XL 1) (MA 11) (XI 16) (XI 17) (XA 25) (XL 4) (MI 2) (MI 3) (MA 21) (MA 22) (MA 23) ∧
    cHand S (XI 7) (XI 8) (XA 7) (XA 8) (MI 5) (MI 6) (MA 26) (MA 32) ∧
    (XI 0 = MI 4 ∧ XI 1 = MI 9) ∧
    cField P S (XI 18) (XI 19) (XI 20) (XI 21) (XI 22) (XA 26) (XA 27) (XA 28) (XA 29) (XA 30) (XA 31) (XA 34) (XA 35) (MI 7) (MI 8) (MA 3) (MA 7) (MA 8) (MA 17) (MA 20) ∧
    cTree P S (XI 2) (XI 3) (XI 4) (XI 5) (XI 6) (XA 2) (XA 3) (XA 4) (XA 1) (MI 10) (MI 11) (MA 0) (MA 28) (MA 13) (MA 18) ∧
    cBal P (XI 13) (XA 21) (MI 12) (MA 33) ∧
    cBal S (XI 15) (XA 23) (MI 13) (MA 25) ∧
    cSets (XI 23) (XA 38) (MI 14) (MA 9)
