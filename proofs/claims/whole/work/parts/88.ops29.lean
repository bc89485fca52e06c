/-! ===== weights and rounds: numbers ===== -/
theorem ix32 (a b : Nat) : nI a * (32 : Int32) + nI b = nI (a * 32 + b) := by rw [show (32 : Int32) = nI 32 from rfl, pk_mul, nI_add]
theorem ix32' (a b : Nat) : (32 : Int32) * nI a + nI b = nI (a * 32 + b) := by rw [show (32 : Int32) = nI 32 from rfl, pk_mul, nI_add, Nat.mul_comm]
def B9 (x : Int64) : Prop := -1000000000 ≤ x.toInt ∧ x.toInt ≤ 1000000000
def B18 (x : Int64) : Prop := -2000000000000000000 ≤ x.toInt ∧ x.toInt ≤ 2000000000000000000
theorem bm {n : Int} (h1 : -9223372036854775808 ≤ n) (h2 : n < 9223372036854775808) : n.bmod (2 ^ 64) = n := Int.bmod_eq_of_le (by omega) (by omega)
theorem mul_b {a x : Int} (h1 : -1000000000 ≤ a) (h2 : a ≤ 1000000000) (h3 : -1000000000 ≤ x) (h4 : x ≤ 1000000000) : -1000000000000000000 ≤ a * x ∧ a * x ≤ 1000000000000000000 := by
  have e : (a * x).natAbs = a.natAbs * x.natAbs := Int.natAbs_mul a x
  have l : a.natAbs * x.natAbs ≤ 1000000000 * 1000000000 := Nat.mul_le_mul (by omega) (by omega)
  omega
theorem nv_B {a x b y : Int64} (ha : B9 a) (hx : B9 x) (hb : B9 b) (hy : B9 y) : B18 (a * x - b * y) := by
  unfold B18
  obtain ⟨p1, p2⟩ := mul_b ha.1 ha.2 hx.1 hx.2
  obtain ⟨q1, q2⟩ := mul_b hb.1 hb.2 hy.1 hy.2
  rw [Int64.toInt_sub, Int64.toInt_mul, Int64.toInt_mul, bm (n := a.toInt * x.toInt) (by omega) (by omega), bm (n := b.toInt * y.toInt) (by omega) (by omega), bm (by omega) (by omega)]
  omega
theorem neg_t {x : Int64} (h : B18 x) : (-x).toInt = -x.toInt := by
  rw [Int64.toInt_neg]; exact bm (by have := h.2; omega) (by have := h.1; omega)
theorem l_0 : (0 : Int64).toInt = 0 := by decide
theorem abs_l {x : Int64} (h : B18 x) : (if 0 < x then x else -x) = lN x.toInt.natAbs := by
  have b : x.toInt.natAbs < 2 ^ 63 := by have := h.1; have := h.2; omega
  refine Int64.toInt_inj.mp ?_
  rw [pk_lT b]
  by_cases c : 0 < x
  · rw [if_pos c]
    have := Int64.lt_iff_toInt_lt.mp c
    rw [l_0] at this
    omega
  · rw [if_neg c, neg_t h]
    have : ¬ (0 : Int64).toInt < x.toInt := fun q => c (Int64.lt_iff_toInt_lt.mpr q)
    rw [l_0] at this
    omega
theorem cmp_ge {x y : Int64} : (0 : Int32) ≤ lg_cmp x y ↔ ¬ x < y := by
  rw [← lg_cmp_lt]; exact ⟨fun q => le_nlt q, fun q => Int32.not_lt.mp q⟩
theorem cmp_gt {x y : Int64} : (0 : Int32) < lg_cmp x y ↔ ¬ x ≤ y := by
  rw [← lg_cmp_le]; exact ⟨fun q => Int32.not_le.mpr q, fun q => Int32.not_le.mp q⟩
theorem gcd_step {x y : Nat} (h : 0 < y) : Nat.gcd x y = Nat.gcd y (x % y) := by
  rw [Nat.gcd_comm x y, Nat.gcd_rec y x, Nat.gcd_comm]
theorem lN_ne0 {y : Nat} (h : 0 < y) (h2 : y < 2 ^ 63) : ¬ lN y = 0 := fun q => by
  have := (pk_lEQ (a := y) (b := 0) h2 (by omega)).mp q
  omega
theorem lN_cmp0 {y : Nat} (h : 0 < y) (h2 : y < 2 ^ 63) : ¬ lg_cmp (lN y) 0 = 0 := fun q => lN_ne0 h h2 ((lg_cmp_eq _ _).mp q)
theorem half_rem {x y : Nat} (hr : 0 < x % y) (hy : 0 < y) : 2 * (y % (x % y)) < y := by
  have h1 : x % y < y := Nat.mod_lt x hy
  have h2 : y % (x % y) < x % y := Nat.mod_lt y hr
  have h3 := Nat.div_add_mod y (x % y)
  have h4 : 1 ≤ y / (x % y) := Nat.div_pos (by omega) hr
  have h5 : (x % y) * 1 ≤ (x % y) * (y / (x % y)) := Nat.mul_le_mul_left _ h4
  omega
theorem nI_nle' {s : Nat} (h : s < 200) : ¬ (200 : Int32) ≤ nI s := (nI_ge h (by omega) : ¬ nI 200 ≤ nI s)
theorem gcdX {post : Int64 → Prop} {K : Int64 → Int64 → Int32 → Prop} : ∀ k x y t, x < 2 ^ 63 → y < 2 ^ 63 → y < 2 ^ k → t + 2 * k + 1 ≤ 200 → (∀ z w, K (lN (Nat.gcd x y)) z w) → ∃ f, w_X0_commonDivisor_L9 post K f (lN x) (lN y) (nI t)
  | 0, x, y, t, hx, hy, hk, ht, h => by
    have e : y = 0 := by simpa using hk
    subst e
    refine ⟨1, ff (nI_nle' (by omega)) (tt ((lg_cmp_eq _ _).mpr rfl) ?_)⟩
    have := h (lN 0) (nI t)
    rw [Nat.gcd_zero_right] at this; exact this
  | k + 1, x, y, t, hx, hy, hk, ht, h => by
    have n200 : ∀ s, s < 200 → ¬ (200 : Int32) ≤ nI s := fun s hs => nI_nle' hs
    rcases Nat.eq_zero_or_pos y with e | e
    · subst e
      refine ⟨1, ff (n200 t (by omega)) (tt ((lg_cmp_eq _ _).mpr rfl) ?_)⟩
      have := h (lN 0) (nI t)
      rw [Nat.gcd_zero_right] at this; exact this
    · have hm : x % y < y := Nat.mod_lt x e
      rcases Nat.eq_zero_or_pos (x % y) with e2 | e2
      · refine ⟨2, ff (n200 t (by omega)) (ff (lN_cmp0 e hy) ⟨lN_ne0 e hy, nm (nm ?_)⟩)⟩
        rw [pk_lRem hx e hy, nI_1, e2]
        refine ff (n200 (t + 1) (by omega)) (tt ((lg_cmp_eq _ _).mpr rfl) ?_)
        have := h (lN 0) (nI (t + 1))
        rw [gcd_step e, e2, Nat.gcd_zero_right] at this; exact this
      · have h2 := half_rem e2 e
        obtain ⟨f, hf⟩ := gcdX k (x % y) (y % (x % y)) (t + 2) (by omega) (by omega) (by rw [Nat.pow_succ] at hk; omega) (by omega) (fun z w => by rw [← gcd_step e2, ← gcd_step e]; exact h z w)
        refine ⟨f + 2, ff (n200 t (by omega)) (ff (lN_cmp0 e hy) ⟨lN_ne0 e hy, nm (nm ?_)⟩)⟩
        rw [pk_lRem hx e hy, nI_1]
        refine ff (n200 (t + 1) (by omega)) (ff (lN_cmp0 e2 (by omega)) ⟨lN_ne0 e2 (by omega), nm (nm ?_)⟩)
        rw [pk_lRem hy e2 (by omega), nI_1]
        exact hf
theorem gcdM {post : Int64 → Prop} {K : Int64 → Int64 → Prop} : ∀ k x y, x < 2 ^ 63 → y < 2 ^ 63 → y < 2 ^ k → (∀ z, K (lN (Nat.gcd x y)) z) → ∃ f, w_X10_common_L28 post K f (lN x) (lN y)
  | 0, x, y, hx, hy, hk, h => by
    have e : y = 0 := by simpa using hk
    subst e
    refine ⟨1, tt ((lg_cmp_eq _ _).mpr rfl) ?_⟩
    have := h (lN 0)
    rw [Nat.gcd_zero_right] at this; exact this
  | k + 1, x, y, hx, hy, hk, h => by
    rcases Nat.eq_zero_or_pos y with e | e
    · subst e
      refine ⟨1, tt ((lg_cmp_eq _ _).mpr rfl) ?_⟩
      have := h (lN 0)
      rw [Nat.gcd_zero_right] at this; exact this
    · have hm : x % y < y := Nat.mod_lt x e
      rcases Nat.eq_zero_or_pos (x % y) with e2 | e2
      · refine ⟨2, ff (lN_cmp0 e hy) ⟨lN_ne0 e hy, nm ?_⟩⟩
        rw [pk_lRem hx e hy, e2]
        refine tt ((lg_cmp_eq _ _).mpr rfl) ?_
        have := h (lN 0)
        rw [gcd_step e, e2, Nat.gcd_zero_right] at this; exact this
      · have h2 := half_rem e2 e
        obtain ⟨f, hf⟩ := gcdM k (x % y) (y % (x % y)) (by omega) (by omega) (by rw [Nat.pow_succ] at hk; omega) (fun z => by rw [← gcd_step e2, ← gcd_step e]; exact h z)
        refine ⟨f + 2, ff (lN_cmp0 e hy) ⟨lN_ne0 e hy, nm ?_⟩⟩
        rw [pk_lRem hx e hy]
        refine ff (lN_cmp0 e2 (by omega)) ⟨lN_ne0 e2 (by omega), nm ?_⟩
        rw [pk_lRem hy e2 (by omega)]
        exact hf
theorem divX_spec {x y : Nat} {post : Int64 → Prop} (hx : x < 2 ^ 63) (hy : y < 2 ^ 63) (k : post (lN (Nat.gcd x y))) : w_X0_commonDivisor (lN x) (lN y) post :=
  gcdX 63 x y 0 hx hy hy (by omega) (fun _ _ => k)
theorem common_spec {x : Nat} {y : Int64} {post : Int64 → Prop} (hx : x < 2 ^ 63) (hy : B18 y) (k : post (lN (Nat.gcd x y.toInt.natAbs))) : w_X10_common (lN x) y post := by
  have b : y.toInt.natAbs < 2 ^ 63 := by have := hy.1; have := hy.2; omega
  have hx0 : (0 : Int32) ≤ lg_cmp (lN x) 0 := cmp_ge.mpr (fun q => by
    have := Int64.lt_iff_toInt_lt.mp q
    rw [pk_lT hx, l_0] at this; omega)
  refine tt hx0 ?_
  by_cases c : y < 0
  · refine ff (fun q => cmp_ge.mp q c) (nm ?_)
    have e : -y = lN y.toInt.natAbs := by
      rw [← abs_l hy, if_neg]
      intro q
      have h1 := Int64.lt_iff_toInt_lt.mp q
      have h2 := Int64.lt_iff_toInt_lt.mp c
      omega
    rw [e]
    exact gcdM 63 x _ hx b b (fun _ => k)
  · refine tt (cmp_ge.mpr c) ?_
    have e : y = lN y.toInt.natAbs := by
      refine Int64.toInt_inj.mp ?_
      rw [pk_lT b]
      have : ¬ y.toInt < (0 : Int64).toInt := fun q => c (Int64.lt_iff_toInt_lt.mpr q)
      rw [l_0] at this
      omega
    have g := gcdM (post := post) (K := fun v9 _ => post v9) 63 x _ hx b b (fun _ => k)
    rw [← e] at g
    exact g
/-- the row that a row becomes -/
def NV (x y : Nat → Int64) (col c : Nat) : Int64 := y col * x c - x col * y c
def gc (f : Nat → Int64) : Nat → Nat
  | 0 => 0
  | k + 1 => Nat.gcd (gc f k) (f k).toInt.natAbs
def QV (x y : Nat → Int64) (col c : Nat) : Int64 := if gc (NV x y col) 32 ≤ 1 then NV x y col c else NV x y col c / lN (gc (NV x y col) 32)
theorem gcd_b {g a : Nat} (hg : g < 2 ^ 63) (ha : a < 2 ^ 63) : Nat.gcd g a < 2 ^ 63 := by
  rcases Nat.eq_zero_or_pos g with e | e
  · rw [e, Nat.gcd_zero_left]; exact ha
  · have := Nat.gcd_le_left a e; omega
theorem gc_b {f : Nat → Int64} : ∀ k, (∀ c, c < k → B18 (f c)) → gc f k < 2 ^ 63
  | 0, _ => by show 0 < 2 ^ 63; omega
  | k + 1, h => gcd_b (gc_b k (fun c hc => h c (by omega))) (by have := (h k (by omega)).1; have := (h k (by omega)).2; omega)
theorem gc_0 {f : Nat → Int64} : ∀ k, gc f k = 0 → ∀ c, c < k → f c = 0
  | 0, _, c, hc => absurd hc (by omega)
  | k + 1, h, c, hc => by
    have h' : Nat.gcd (gc f k) (f k).toInt.natAbs = 0 := h
    rw [Nat.gcd_eq_zero_iff] at h'
    by_cases e : c = k
    · rw [e]
      refine Int64.toInt_inj.mp ?_
      rw [l_0]; omega
    · exact gc_0 k h'.1 c (by omega)
theorem div_B {x : Int64} {g : Nat} (h : B18 x) (h0 : 0 < g) (hg : g < 2 ^ 63) : B18 (x / lN g) := by
  unfold B18
  have e : (x.toInt.tdiv (g : Int)).natAbs = x.toInt.natAbs / g := by rw [Int.natAbs_tdiv]; rfl
  have l : x.toInt.natAbs / g ≤ x.toInt.natAbs := Nat.div_le_self _ _
  have := h.1
  have := h.2
  rw [Int64.toInt_div, pk_lT hg, bm (by omega) (by omega)]
  omega
theorem div_1 (x : Int64) : x / lN 1 = x := by
  refine Int64.toInt_inj.mp ?_
  have h1 := Int64.toInt_lt x
  have h2 := Int64.le_toInt x
  rw [Int64.toInt_div, pk_lT (by omega)]
  show (x.toInt.tdiv 1).bmod (2 ^ 64) = x.toInt
  rw [Int.tdiv_one]
  exact bm (by omega) (by omega)
