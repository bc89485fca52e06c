/-! ===== lN n to 2^64: shifts, and, or, masks, one bit ===== -/
theorem wb_tb (n : Nat) : (lN n).toBitVec = BitVec.ofNat 64 n := rfl
theorem wb_inj {a b : Int64} (h : a.toBitVec = b.toBitVec) : a = b := Int64.toBitVec_inj.mp h
theorem wb_tn {n : Nat} (h : n < 2 ^ 64) : (lN n).toBitVec.toNat = n := by rw [wb_tb, BitVec.toNat_ofNat, Nat.mod_eq_of_lt h]
theorem wb_of (x : Int64) : ∃ n, n < 2 ^ 64 ∧ x = lN n := ⟨x.toBitVec.toNat, x.toBitVec.isLt, wb_inj (by rw [wb_tb]; simp)⟩
theorem wb_of32 (x : Int32) : ∃ n, n < 2 ^ 32 ∧ x = nI n := ⟨x.toBitVec.toNat, x.toBitVec.isLt, Int32.toBitVec_inj.mp (by show _ = BitVec.ofNat 32 _; simp)⟩
theorem wb_c : ∀ k, k < 64 → ((nI k).toInt64 &&& 63) = lN k := by decide +kernel
theorem wb_cu : ∀ k, k < 64 → ((nI k).toInt64.toUInt64 &&& Int64.toUInt64 63) = UInt64.ofNat k := by decide +kernel
theorem wb_sm : ∀ k, k < 64 → (BitVec.ofNat 64 k).smod 64 = BitVec.ofNat 64 k := by decide +kernel
theorem wb_pw {a b : Nat} (h : a ≤ b) : 2 ^ b = 2 ^ a * 2 ^ (b - a) := by rw [← Nat.pow_add]; congr 1; omega
theorem wb_lt2 {a b : Nat} (h : a < b) : 2 ^ a < 2 ^ b := Nat.pow_lt_pow_right (by decide) h
theorem wb_mod (n : Nat) : lN n = lN (n % 2 ^ 64) := wb_inj (by rw [wb_tb, wb_tb]; apply BitVec.eq_of_toNat_eq; rw [BitVec.toNat_ofNat, BitVec.toNat_ofNat, Nat.mod_mod])
theorem wb_shr {n k : Nat} (hn : n < 2 ^ 64) (hk : k < 64) : ((lN n).toUInt64 >>> ((nI k).toInt64.toUInt64 &&& Int64.toUInt64 63)).toInt64 = lN (n / 2 ^ k) := by
  rw [wb_cu k hk]
  apply wb_inj
  apply BitVec.eq_of_toNat_eq
  show ((lN n).toUInt64 >>> UInt64.ofNat k).toNat = (BitVec.ofNat 64 _).toNat
  have h1 : (UInt64.ofNat k).toNat = k := by
    show (BitVec.ofNat 64 k).toNat = k
    rw [BitVec.toNat_ofNat, Nat.mod_eq_of_lt (by omega)]
  have h2 : (lN n).toUInt64.toNat = n := wb_tn hn
  rw [UInt64.toNat_shiftRight, h1, h2, Nat.mod_eq_of_lt hk, Nat.shiftRight_eq_div_pow, BitVec.toNat_ofNat, Nat.mod_eq_of_lt (Nat.lt_of_le_of_lt (Nat.div_le_self _ _) hn)]
theorem wb_shl (n : Nat) {k : Nat} (hk : k < 64) : lN n <<< ((nI k).toInt64 &&& 63) = lN (n * 2 ^ k) := by
  rw [wb_c k hk]
  apply wb_inj
  rw [Int64.toBitVec_shiftLeft, wb_tb, wb_tb, wb_tb, wb_sm k hk]
  apply BitVec.eq_of_toNat_eq
  rw [BitVec.shiftLeft_eq', BitVec.toNat_shiftLeft, BitVec.toNat_ofNat, BitVec.toNat_ofNat, BitVec.toNat_ofNat, Nat.mod_eq_of_lt (show k < 2 ^ 64 by omega), Nat.shiftLeft_eq, Nat.mul_mod, Nat.mod_mod, ← Nat.mul_mod]
theorem wb_and {a b : Nat} (ha : a < 2 ^ 64) (hb : b < 2 ^ 64) : lN a &&& lN b = lN (a &&& b) := by
  apply wb_inj
  rw [Int64.toBitVec_and, wb_tb, wb_tb, wb_tb]
  apply BitVec.eq_of_toNat_eq
  rw [BitVec.toNat_and, BitVec.toNat_ofNat, BitVec.toNat_ofNat, BitVec.toNat_ofNat, Nat.mod_eq_of_lt ha, Nat.mod_eq_of_lt hb, Nat.mod_eq_of_lt (Nat.and_lt_two_pow _ hb)]
theorem wb_or {a b : Nat} (ha : a < 2 ^ 64) (hb : b < 2 ^ 64) : lN a ||| lN b = lN (a ||| b) := by
  apply wb_inj
  rw [Int64.toBitVec_or, wb_tb, wb_tb, wb_tb]
  apply BitVec.eq_of_toNat_eq
  rw [BitVec.toNat_or, BitVec.toNat_ofNat, BitVec.toNat_ofNat, BitVec.toNat_ofNat, Nat.mod_eq_of_lt ha, Nat.mod_eq_of_lt hb, Nat.mod_eq_of_lt (Nat.or_lt_two_pow ha hb)]
theorem wb_mask {n k : Nat} (hn : n < 2 ^ 64) (hk : k < 64) : lN n &&& lN (2 ^ k - 1) = lN (n % 2 ^ k) := by
  rw [wb_and hn (by have := wb_lt2 hk; omega), Nat.and_two_pow_sub_one_eq_mod]
theorem wb_a1 {n : Nat} (hn : n < 2 ^ 64) : lN n &&& 1 = lN (n % 2) := wb_mask (k := 1) hn (by decide)
theorem wb_bit {n k : Nat} (hn : n < 2 ^ 64) (hk : k < 64) : ((lN n).toUInt64 >>> ((nI k).toInt64.toUInt64 &&& Int64.toUInt64 63)).toInt64 &&& 1 = lN (n / 2 ^ k % 2) := by
  rw [wb_shr hn hk, wb_a1 (Nat.lt_of_le_of_lt (Nat.div_le_self _ _) hn)]
theorem wb_xor {q k : Nat} (hk : k < 63) (h : 2 ^ k ≤ q) (h2 : q < 2 ^ (k + 1)) : lN q ^^^ lN (2 ^ k) = lN (q - 2 ^ k) := by
  obtain ⟨r, rfl⟩ : ∃ r, q = 2 ^ k + r := ⟨q - 2 ^ k, by omega⟩
  have hr : r < 2 ^ k := by rw [Nat.pow_succ] at h2; omega
  have hx : (2 ^ k + r) ^^^ 2 ^ k = r := by
    apply Nat.eq_of_testBit_eq
    intro i
    rw [Nat.testBit_xor, Nat.testBit_two_pow]
    rcases Nat.lt_trichotomy i k with h | h | h
    · rw [Nat.testBit_two_pow_add_gt h]
      simp [show ¬ k = i by omega]
    · subst h
      rw [Nat.testBit_two_pow_add_eq]
      simp
    · have a1 : 2 ^ (k + 1) ≤ 2 ^ i := Nat.pow_le_pow_right (by decide) h
      rw [Nat.testBit_lt_two_pow (show 2 ^ k + r < 2 ^ i by omega), Nat.testBit_lt_two_pow (show r < 2 ^ i by omega)]
      simp [show ¬ k = i by omega]
  have b1 := wb_lt2 (show k + 1 < 64 by omega)
  have b2 := wb_lt2 (show k < 64 by omega)
  apply wb_inj
  rw [Int64.toBitVec_xor, wb_tb, wb_tb, wb_tb]
  apply BitVec.eq_of_toNat_eq
  rw [BitVec.toNat_xor, BitVec.toNat_ofNat, BitVec.toNat_ofNat, BitVec.toNat_ofNat, Nat.mod_eq_of_lt (by omega : 2 ^ k + r < 2 ^ 64), Nat.mod_eq_of_lt b2, hx, Nat.add_sub_cancel_left, Nat.mod_eq_of_lt (by omega)]
/-! ===== lN: masks, 'or' of parts that don't overlap is a sum ===== -/
theorem u_tn {n : Nat} (h : n < 2 ^ 64) : (UInt64.ofNat n).toNat = n := Nat.mod_eq_of_lt h
theorem g_and {a b c : Nat} (ha : a < 2 ^ 64) (hb : b < 2 ^ 64) (hc : a &&& b = c) : lN a &&& lN b = lN c := by
  subst hc
  have h : UInt64.ofNat a &&& UInt64.ofNat b = UInt64.ofNat (a &&& b) := UInt64.toNat_inj.mp (by rw [UInt64.toNat_and, u_tn ha, u_tn hb, u_tn (Nat.and_lt_two_pow a hb)])
  have h2 := congrArg UInt64.toInt64 h
  exact h2
theorem g_and1 {a : Nat} (ha : a < 2 ^ 64) : lN a &&& 1 = lN (a % 2) := g_and (b := 1) ha (by decide) (Nat.and_two_pow_sub_one_eq_mod a 1)
theorem g_mask {a s p : Nat} (hp : 2 ^ s = p) (hs : s < 64) (ha : a < 2 ^ 64) : lN a &&& lN (p - 1) = lN (a % p) := by
  subst hp
  have := Nat.pow_lt_pow_right (show 1 < 2 by decide) hs
  exact g_and ha (by omega) (Nat.and_two_pow_sub_one_eq_mod a s)
theorem g_or {k p a b : Nat} (hp : 2 ^ k = p) (ha : a < p) (h : b * p + a < 2 ^ 64) : lN (b * p) ||| lN a = lN (b * p + a) := by
  subst hp
  have h1 : b * 2 ^ k ||| a = b * 2 ^ k + a := by rw [← Nat.shiftLeft_eq, Nat.shiftLeft_add_eq_or_of_lt ha]
  have h3 : UInt64.ofNat (b * 2 ^ k) ||| UInt64.ofNat a = UInt64.ofNat (b * 2 ^ k + a) := UInt64.toNat_inj.mp (by rw [UInt64.toNat_or, u_tn (by omega), u_tn (by omega), u_tn h, h1])
  have h2 := congrArg UInt64.toInt64 h3
  exact h2
theorem g_or' {k p a b : Nat} (hp : 2 ^ k = p) (ha : a < p) (h : a + b * p < 2 ^ 64) : lN a ||| lN (b * p) = lN (a + b * p) := by
  rw [Int64.or_comm, g_or hp ha (by omega), Nat.add_comm]
theorem g_ushr {a k p : Nat} {y : UInt64} (hy : y = UInt64.ofNat k) (hk : k < 64) (hp : 2 ^ k = p) (ha : a < 2 ^ 64) : ((lN a).toUInt64 >>> y).toInt64 = lN (a / p) := by
  subst hy hp
  have h : UInt64.ofNat a >>> UInt64.ofNat k = UInt64.ofNat (a / 2 ^ k) := UInt64.toNat_inj.mp (by rw [UInt64.toNat_shiftRight, u_tn ha, u_tn (by omega), u_tn (Nat.lt_of_le_of_lt (Nat.div_le_self _ _) ha), Nat.mod_eq_of_lt hk, Nat.shiftRight_eq_div_pow])
  have h2 := congrArg UInt64.toInt64 h
  exact h2
theorem g_shl {a k p : Nat} {y : Int64} (hy : y.toBitVec.smod 64 = BitVec.ofNat 64 k) (hk : k < 64) (hp : 2 ^ k = p) (ha : a < 2 ^ 64) : lN a <<< y = lN (a * p) := by
  subst hp
  apply Int64.toBitVec_inj.mp
  rw [Int64.toBitVec_shiftLeft, hy]
  apply BitVec.eq_of_toNat_eq
  have hb : (lN a).toBitVec.toNat = a := Nat.mod_eq_of_lt ha
  have hk' : (BitVec.ofNat 64 k).toNat = k := Nat.mod_eq_of_lt (by omega)
  have h : ((lN a).toBitVec <<< BitVec.ofNat 64 k).toNat = (a * 2 ^ k) % 2 ^ 64 := by simp only [BitVec.shiftLeft_eq', BitVec.toNat_shiftLeft, hb, hk', Nat.shiftLeft_eq]
  exact h
/-! ===== calls that only ask, or that change one thing ===== -/
theorem hasNumber_no {pl a : Int32} {post : Int32 → Prop} (h : a < 0 ∨ pl ≤ a) (k : post 0) : w_X2_hasNumber pl a post := by
  by_cases h1 : a < 0
  · exact tt h1 k
  · exact ff h1 (tt (h.resolve_left h1) k)
theorem hasNumber_yes {pl a : Int32} {post : Int32 → Prop} (h1 : ¬ a < 0) (h2 : ¬ pl ≤ a) (k : post 1) : w_X2_hasNumber pl a post := ff h1 (ff h2 k)
theorem has_no {pl a : Int32} {post : Int32 → Prop} (h : a < 0 ∨ pl ≤ a) (k : post 0) : w_X0_has pl a post := by
  by_cases h1 : a < 0
  · exact tt h1 k
  · exact ff h1 (tt (h.resolve_left h1) k)
theorem has_yes {pl a : Int32} {post : Int32 → Prop} (h1 : ¬ a < 0) (h2 : ¬ pl ≤ a) (k : post 1) : w_X0_has pl a post := ff h1 (ff h2 k)
theorem sub1_toInt {R : Nat} (hR : R < 2 ^ 30) : (nI R - 1).toInt = (R : Int) - 1 := by
  have e : (nI R - nI 1).toInt = (R : Int) - (1 : Nat) := pk_sub_toInt hR (by omega)
  exact e
/-- the reference's test of an index below a number -/
theorem isInM_no {a : Int32} {R : Nat} {post : Int32 → Prop} (hR : R < 2 ^ 30) (h : a < 0 ∨ nI R ≤ a) (k : post 0) : w_X10_isIn a 0 (nI R - 1) post := by
  by_cases h1 : a < 0
  · exact isIn_lo h1 k
  · refine isIn_hi ?_ k
    have h2 := Int32.le_iff_toInt_le.mp (h.resolve_left h1)
    rw [nI_toInt (by omega)] at h2
    rw [Int32.lt_iff_toInt_lt, sub1_toInt hR]
    omega
theorem isInM_yes {R j : Nat} {post : Int32 → Prop} (hR : R < 2 ^ 30) (hj : j < R) (k : post 1) : w_X10_isIn (nI j) 0 (nI R - 1) post := by
  refine isIn_in (nI_pos (by omega)) ?_ k
  rw [Int32.lt_iff_toInt_lt, sub1_toInt hR, nI_toInt (by omega)]
  omega
theorem nlt_le {a b : Int32} (h : ¬ a ≤ b) : b < a := Int32.not_le.mp h
theorem le_nlt {a b : Int32} (h : a ≤ b) : ¬ b < a := Int32.not_lt.mpr h
/-- a number of a small range, or none of it -/
theorem rng (a : Int32) (n : Nat) (hn : n < 2 ^ 30) : (a < 0 ∨ nI n < a) ∨ ∃ v : Nat, v ≤ n ∧ a = nI v ∧ ¬ a < 0 ∧ a ≤ nI n := by
  rcases pk_ix a (n := n + 1) (by omega) with h | h | ⟨j, hj, rfl⟩
  · exact Or.inl (Or.inl h)
  · refine Or.inl (Or.inr ?_)
    have h2 := Int32.le_iff_toInt_le.mp h
    rw [nI_toInt (by omega)] at h2
    rw [Int32.lt_iff_toInt_lt, nI_toInt (by omega)]
    omega
  · exact Or.inr ⟨j, by omega, rfl, nI_pos (by omega), nI_le (by omega) (by omega)⟩
theorem isInR_no {a : Int32} {n : Nat} {post : Int32 → Prop} (h : a < 0 ∨ nI n < a) (k : post 0) : w_X10_isIn a 0 (nI n) post := by
  by_cases h1 : a < 0
  · exact isIn_lo h1 k
  · exact isIn_hi (h.resolve_left h1) k
theorem isInR_yes {a : Int32} {n : Nat} {post : Int32 → Prop} (h1 : ¬ a < 0) (h2 : a ≤ nI n) (k : post 1) : w_X10_isIn a 0 (nI n) post := isIn_in h1 (le_nlt h2) k
theorem p_11 : St_11 Inw := by
  intro XI XA XL MI MA ML hI a1
  obtain ⟨P, S, hq, hN, hW, -⟩ := id hI
  unfold ls_11 w_X9_many w_X10_many
  rw [hq.1, hq.2.1]
  have hP16 : P ≤ 16 := hN.1.1
  rcases ix3 a1 P (by omega) with h | ⟨j, hj, rfl, h1, h2⟩
  · exact hasPlace_no h (by
      first | exact z0 (isPlace_no h (by first | exact z0 ⟨rfl, hI⟩ | exact y0 ⟨rfl, hI⟩)) | exact y0 (isPlace_no h (by first | exact z0 ⟨rfl, hI⟩ | exact y0 ⟨rfl, hI⟩)))
  · have hin : vp_in (nI j) 16 := vp_in_nI (by omega) (by omega)
    have hv := (hW j (by omega)).1
    exact hasPlace_yes h1 h2 (by
      first
        | exact z1 ⟨hin, isPlace_yes h1 h2 (by first | exact z1 ⟨hin, by rw [nI_cl (by omega)]; exact hv, hI⟩ | exact y1 ⟨hin, by rw [nI_cl (by omega)]; exact hv, hI⟩)⟩
        | exact y1 ⟨hin, isPlace_yes h1 h2 (by first | exact z1 ⟨hin, by rw [nI_cl (by omega)]; exact hv, hI⟩ | exact y1 ⟨hin, by rw [nI_cl (by omega)]; exact hv, hI⟩)⟩)
theorem p_35 : St_35 Inw := by
  intro XI XA XL MI MA ML hI
  obtain ⟨P, S, hq, hN, hW, hP, hH, hg, -⟩ := id hI
  exact ⟨hg.2, hI⟩
theorem p_20 : St_20 Inw := by
  intro XI XA XL MI MA ML hI a1
  obtain ⟨P, S, hq, hN, hW, hPa, hH, -⟩ := id hI
  obtain ⟨R, n, hR, hn, r1, r2, w1, w2, hrow, hway⟩ := hH
  unfold ls_20 w_X9_get w_X10_get
  rw [r1, r2]
  rcases ix3 a1 R (by omega) with h | ⟨j, hj, rfl, h1, h2⟩
  · exact hasNumber_no h (z0 (isInM_no (by omega) h (z0 ⟨rfl, hI⟩)))
  · have hin : vp_in (nI j) 16 := vp_in_nI (by omega) (by omega)
    exact hasNumber_yes h1 h2 (z1 ⟨hin, isInM_yes (by omega) hj (z1 ⟨hin, by rw [nI_cl (by omega)]; exact hrow j (by omega), hI⟩)⟩)
theorem p_19 : St_19 Inw := by
  intro XI XA XL MI MA ML hI a1 a2
  obtain ⟨P, S, hq, hN, hW, hPa, hH, hg, hF, hT, hb1, hb2, hs⟩ := id hI
  obtain ⟨R, n, hR, hn, r1, r2, w1, w2, hrow, hway⟩ := hH
  unfold ls_19 w_X9_set w_X10_set
  have hno : Inw XI (va_up XA 7 (XA 7)) XL MI (va_up MA 26 (MA 26)) ML := by rw [up_same, up_same]; exact hI
  rw [r1, r2]
  rcases ix3 a1 R (by omega) with h | ⟨j, hj, rfl, h1, h2⟩
  · exact hasNumber_no h (z0 (isInM_no (by omega) h (z0 ⟨rfl, hno⟩)))
  · have hin : vp_in (nI j) 16 := vp_in_nI (by omega) (by omega)
    refine hasNumber_yes h1 h2 (z1 ?_)
    by_cases g1 : a2 < -1000000000
    · exact tt g1 (isInM_yes (by omega) hj (z1 (isIn_lo g1 (y0 ⟨rfl, hno⟩))))
    · refine ff g1 ?_
      by_cases g2 : a2 ≤ 1000000000
      · refine tt g2 ⟨hin, nm ⟨hin, isInM_yes (by omega) hj (z1 (isIn_in g1 (le_nlt g2) (y1 ⟨hin, nm ⟨hin, ?_, ?_⟩⟩)))⟩⟩
        · rw [nI_cl (by omega)]; exact hrow j (by omega)
        · rw [nI_cl (by omega)]
          refine ⟨P, S, hq, hN, hW, hPa, ⟨R, n, hR, hn, r1, r2, w1, w2, fun i hi => ?_, hway⟩, hg, hF, hT, hb1, hb2, hs⟩
          show upd (XA 7) j a2 i = upd (MA 26) j a2 i
          by_cases e : i = j
          · subst e; rw [pk_us, pk_us]
          · rw [pk_un e, pk_un e]; exact hrow i hi
      · exact ff g2 (isInM_yes (by omega) hj (z1 (isIn_hi (nlt_le g2) (y0 ⟨rfl, hno⟩))))
theorem p_23 : St_23 Inw := by
  intro XI XA XL MI MA ML hI
  obtain ⟨P, S, hq, hN, hW, hPa, hH, hg, hF, hT, hb1, hb2, hs⟩ := id hI
  obtain ⟨R, n, hR, hn, r1, r2, w1, w2, hrow, hway⟩ := hH
  exact ⟨w1.trans w2.symm, P, S, hq, hN, hW, hPa, ⟨R, 0, hR, by omega, r1, r2, rfl, rfl, hrow, fun i hi => absurd hi (by omega)⟩, hg, hF, hT, hb1, hb2, hs⟩
theorem p_24 : St_24 Inw := by
  intro XI XA XL MI MA ML hI a1
  obtain ⟨P, S, hq, hN, hW, hPa, hH, -⟩ := id hI
  obtain ⟨R, n, hR, hn, r1, r2, w1, w2, hrow, hway⟩ := hH
  unfold ls_24 w_X9_walk w_X10_walk
  rw [w1, w2]
  rcases ix3 a1 n (by omega) with h | ⟨j, hj, rfl, h1, h2⟩
  · by_cases h1 : a1 < 0
    · exact tt h1 (isInM_no (by omega) h (z0 ⟨rfl, hI⟩))
    · exact ff h1 (tt (h.resolve_left h1) (isInM_no (by omega) h (z0 ⟨rfl, hI⟩)))
  · have hin : vp_in (nI j) 8000 := vp_in_nI (by omega) (by omega)
    exact ff h1 (ff h2 ⟨hin, isInM_yes (by omega) hj (z1 ⟨hin, by rw [nI_cl (by omega)]; exact (hway j hj).1, hI⟩)⟩)
theorem p_22 : St_22 Inw := by
  intro XI XA XL MI MA ML hI a1
  obtain ⟨P, S, hq, hN, hW, hPa, hH, hg, hF, hT, hb1, hb2, hs⟩ := id hI
  obtain ⟨R, n, hR, hn, r1, r2, w1, w2, hrow, hway⟩ := hH
  have hS16 : S ≤ 16 := hN.1.2
  unfold ls_22 w_X9_lay w_X10_lay w_X2_layBehind
  have hno : Inw (va_up XI 8 (XI 8)) (va_up XA 8 (XA 8)) XL (va_up MI 6 (MI 6)) (va_up MA 32 (MA 32)) ML := by rw [up_same, up_same, up_same, up_same]; exact hI
  rw [w1, w2] at hno ⊢
  rw [hq.2.2.1, hq.2.2.2.1]
  rcases ix3 a1 S (by omega) with h | ⟨j, hj, rfl, h1, h2⟩
  · exact hasStep_no h (y0 (isStep_no h (y0 ⟨rfl, hno⟩)))
  · refine hasStep_yes h1 h2 (y1 ?_)
    by_cases hf : n < 8000
    · have c1 : nI n < (8000 : Int32) := nI_lt (b := 8000) hf (by omega)
      have c2 : ¬ nI n = (8000 : Int32) := fun q => by
        have := (nI_eq (a := n) (b := 8000) (by omega) (by omega)).mp q
        omega
      have hin : vp_in (nI n) 8000 := vp_in_nI hf (by omega)
      refine tt c1 ⟨hin, nm (isStep_yes h1 h2 (y1 (nf c2 ⟨hin, nm ⟨rfl, ?_⟩⟩)))⟩
      rw [nI_cl (by omega)]
      refine ⟨P, S, hq, hN, hW, hPa, ⟨R, n + 1, hR, by omega, r1, r2, nI_1 n, nI_1 n, hrow, fun i hi => ?_⟩, hg, hF, hT, hb1, hb2, hs⟩
      show upd (XA 8) n (nI j) i = upd (MA 32) n (nI j) i ∧ ∃ s : Nat, s < S ∧ upd (XA 8) n (nI j) i = nI s
      by_cases e : i = n
      · subst e; rw [pk_us, pk_us]; exact ⟨rfl, j, hj, rfl⟩
      · rw [pk_un e, pk_un e]; exact hway i (by omega)
    · have e8 : n = 8000 := by omega
      subst e8
      have c1 : ¬ nI 8000 < (8000 : Int32) := by decide
      have c2 : nI 8000 = (8000 : Int32) := by decide
      exact ff c1 (isStep_yes h1 h2 (y1 (nt c2 ⟨rfl, hno⟩)))
theorem p_49 : St_49 Inw := by
  intro XI XA XL MI MA ML hI a1
  obtain ⟨P, S, hq, hN, hW, hPa, hH, hg, hF, hT, hb1, hb2, n, hn, e1, e2, hs⟩ := id hI
  unfold ls_49 w_X9_bits w_X10_bits
  rw [e1, e2]
  rcases ix3 a1 n (by omega) with h | ⟨j, hj, rfl, h1, h2⟩
  · by_cases h1 : a1 < 0
    · exact tt h1 (isInM_no (by omega) h (z0 ⟨rfl, hI⟩))
    · exact ff h1 (tt (h.resolve_left h1) (isInM_no (by omega) h (z0 ⟨rfl, hI⟩)))
  · have hin : vp_in (nI j) 500 := vp_in_nI (by omega) (by omega)
    exact ff h1 (ff h2 ⟨hin, isInM_yes (by omega) hj (z1 ⟨hin, by rw [nI_cl (by omega)]; exact hs j hj, hI⟩)⟩)
