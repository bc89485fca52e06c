/-! ===== a thing more; the row; the share ===== -/
theorem pow4 (v : Nat) : (4 : Nat) ^ v = 2 ^ (2 * v) := by rw [Nat.pow_mul]
theorem app_val {t v k : Nat} (hv : v < 20) (ht : t < 4 ^ v) (hk : k ≤ 3) : (lN t ||| ((nI k).toInt64 <<< (((2 : Int32) * nI v).toInt64 &&& 63))) = lN (t + k * 4 ^ v) := by
  have hb : (4 : Nat) ^ v ≤ 4 ^ 19 := Nat.pow_le_pow_right (by omega) (by omega)
  have e19 : (4 : Nat) ^ 19 = 274877906944 := by decide
  have hm : k * 4 ^ v ≤ 3 * 4 ^ v := Nat.mul_le_mul_right _ hk
  rw [show (2 : Int32) = nI 2 from rfl, pk_mul, nI_l (by omega), wb_shl k (by omega), ← pow4]
  exact g_or' (k := 2 * v) (pow4 v).symm ht (by omega)
theorem dig_lo {t v k i : Nat} (hi : i < v) (ht : t < 4 ^ v) : (t + k * 4 ^ v) / 4 ^ i % 4 = t / 4 ^ i % 4 := by
  obtain ⟨d, rfl⟩ : ∃ d, v = i + 1 + d := ⟨v - i - 1, by omega⟩
  have e : k * 4 ^ (i + 1 + d) = 4 ^ i * (4 * (k * 4 ^ d)) := by
    rw [Nat.pow_add, Nat.pow_succ]
    simp [Nat.mul_comm, Nat.mul_left_comm, Nat.mul_assoc]
  have hp : 0 < 4 ^ i := Nat.pow_pos (by decide)
  rw [e, Nat.add_mul_div_left _ _ hp, Nat.add_mul_mod_self_left]
theorem dig_hi {t v k : Nat} (ht : t < 4 ^ v) (hk : k ≤ 3) : (t + k * 4 ^ v) / 4 ^ v % 4 = k := by
  have hp : 0 < 4 ^ v := Nat.pow_pos (by decide)
  rw [Nat.mul_comm, Nat.add_mul_div_left _ _ hp, Nat.div_eq_of_lt ht]
  omega
theorem p_9 : St_9 Inw := by
  intro XI XA XL MI MA ML hI a1 a2
  obtain ⟨P, S, hq, hN, hW, hPa, hH, hg, hF, hT, hb1, hb2, hs⟩ := id hI
  have hP16 : P ≤ 16 := hN.1.1
  have hno : Inw (va_up XI 16 (XI 16)) (va_up XA 20 (XA 20)) (va_up XL 1 (XL 1)) (va_up MI 3 (MI 3)) (va_up (va_up MA 11 (MA 11)) 30 (MA 30)) ML := by simp only [up_same]; exact hI
  unfold ls_9 w_X9_thing w_X10_thing w_X6_clear w_X3_append
  rw [hq.1, hq.2.1, hq.2.2.2.2.1]
  rcases ix3 a1 P (by omega) with h | ⟨p, hp, rfl, h1, h2⟩
  · exact hasPlace_no h (z0 (isPlace_no h (z0 ⟨rfl, hno⟩)))
  have hin : vp_in (nI p) 16 := vp_in_nI (by omega) (by omega)
  refine hasPlace_yes h1 h2 (z1 ?_)
  rcases rng a2 3 (by omega) with f | ⟨w, hw, rfl, f1, f2⟩
  · exact isThing_no f (y0 (isPlace_yes h1 h2 (z1 (isInR_no (n := 3) f (y0 ⟨rfl, hno⟩)))))
  refine isThing_yes f1 f2 (y1 ?_)
  obtain ⟨w1, v, w2, w3, w4, w5⟩ := hW p (by omega)
  rcases hN.2.1 p hp with c | c
  · refine isCol_no (by omega) (by rw [c]; decide) (y0 (isPlace_yes h1 h2 (z1 (isInR_yes (n := 3) f1 f2 (y1 ⟨hin, ?_⟩)))))
    rw [nI_cl (by omega)]
    exact nt c ⟨rfl, hno⟩
  · obtain ⟨u1, t, u2, u3, u4⟩ := w5 hp c
    refine isCol_yes (by omega) c (y1 ⟨hin, ?_⟩)
    rw [nI_cl (by omega), w1, w2]
    by_cases hf : v < 20
    · have c1 : nI v < (20 : Int32) := nI_lt (b := 20) hf (by omega)
      have c2 : ¬ nI v = (20 : Int32) := fun q => by
        have := (nI_eq (a := v) (b := 20) (by omega) (by omega)).mp q
        omega
      refine tt c1 ⟨hin, hin, hin, hin, hin, hin, isPlace_yes h1 h2 (z1 (isInR_yes (n := 3) f1 f2 (y1 ⟨hin, ?_⟩)))⟩
      refine nf (by rw [c]; decide) ⟨hin, nf c2 ⟨hin, ?_⟩⟩
      rw [ixT, nI_cl (n := 20 * p + v) (by omega)]
      refine ⟨vp_in_nI (by omega) (by omega), hin, hin, hin, ?_, ?_⟩
      · rw [pk_us, pk_us]
      · refine ⟨P, S, hq, hN, fun i hi => ?_, cPast_clear hPa, hH, hg, hF, hT, hb1, hb2, hs⟩
        rw [u2, app_val hf u3 hw]
        show upd (XA 20) p (nI v + 1) i = upd (MA 11) p (nI v + 1) i ∧ ∃ x : Nat, upd (MA 11) p (nI v + 1) i = nI x ∧ x ≤ 1000000000 ∧ (P ≤ i → x = 0 ∧ vp_updL (XL 1) p (lN (t + w * 4 ^ v)) i = 0) ∧ (i < P → XA 13 i = 1 → x ≤ 20 ∧ ∃ t' : Nat, vp_updL (XL 1) p (lN (t + w * 4 ^ v)) i = lN t' ∧ t' < 4 ^ x ∧ ∀ j, j < x → upd (MA 30) (20 * p + v) (nI w) (20 * i + j) = nI (t' / 4 ^ j % 4))
        by_cases e : i = p
        · subst e
          rw [pk_us, pk_us, pk_uLs]
          refine ⟨rfl, v + 1, nI_1 v, by omega, fun q => absurd q (by omega), fun _ _ => ⟨by omega, t + w * 4 ^ v, rfl, ?_, fun j hj => ?_⟩⟩
          · have hm : w * 4 ^ v ≤ 3 * 4 ^ v := Nat.mul_le_mul_right _ hw
            rw [Nat.pow_succ]
            omega
          · by_cases ej : j = v
            · subst ej; rw [pk_us, dig_hi u3 hw]
            · rw [pk_un (by omega), dig_lo (by omega) u3]; exact u4 j (by omega)
        · rw [pk_un e, pk_un e, pk_uLn e]
          obtain ⟨z1', x, z2, z3, z4, z5⟩ := hW i hi
          refine ⟨z1', x, z2, z3, z4, fun q1 q2 => ?_⟩
          obtain ⟨y1', t', y2, y3, y4⟩ := z5 q1 q2
          exact ⟨y1', t', y2, y3, fun j hj => by rw [pk_un (by omega)]; exact y4 j hj⟩
    · have e20 : v = 20 := by omega
      subst e20
      have c1 : ¬ nI 20 < (20 : Int32) := by decide
      have c2 : nI 20 = (20 : Int32) := by decide
      refine ff c1 (isPlace_yes h1 h2 (z1 (isInR_yes (n := 3) f1 f2 (y1 ⟨hin, ?_⟩))))
      exact nf (by rw [c]; decide) ⟨hin, nt c2 ⟨rfl, hno⟩⟩
theorem fill_spec {N : Nat} {a1 : Int32} {f : Nat → Int32} {post : (Nat → Int32) → Prop} (hN : N < 2 ^ 31) (h : ∀ g, (∀ j, j < N → g j = a1) → (∀ j, N ≤ j → g j = f j) → post g) : w_J7_fill_53178 N f a1 post := by
  refine nm ?_
  refine pk_loop (fun n i (g : Nat → Int32) => w_J7_fill_53178_L5 N a1 (nI N) post (fun _ s7 => post s7) n (nI i) g) (fun i g => (∀ j, j < i → g j = a1) ∧ ∀ j, i ≤ j → g j = f j) N 0 f (by omega) ⟨fun j hj => absurd hj (by omega), fun j _ => rfl⟩ ?_ ?_
  · intro n g hg
    exact tt (nI_le (Nat.le_refl N) hN) (h g hg.1 hg.2)
  · intro n i g hi hg ih
    refine ff (nI_ge hi hN) ⟨vp_in_nI hi hN, nm ?_⟩
    rw [nI_1, nI_cl (by omega)]
    refine ih _ ⟨fun j hj => ?_, fun j hj => ?_⟩
    · by_cases e : j = i
      · subst e; exact pk_us
      · rw [pk_un e]; exact hg.1 j (by omega)
    · rw [pk_un (by omega)]; exact hg.2 j (by omega)
theorem rowM_spec {v1 rs : Int32} {f : Nat → Int32} {post : Int32 → Int32 → (Nat → Int32) → Prop} {K : Int32 → (Nat → Int32) → Prop} (h : ∀ x g, (∀ j, j < 16 → g j = 0) → K x g) : ∃ n : Nat, w_X10_row_L20 v1 rs post K n 0 f := by
  refine pk_loop (fun n i (g : Nat → Int32) => w_X10_row_L20 v1 rs post K n (nI i) g) (fun i g => ∀ j, j < i → g j = 0) 16 0 f (by omega) (fun j hj => absurd hj (by omega)) ?_ ?_
  · intro n g hg
    exact tt (by decide) (h _ g hg)
  · intro n i g hi hg ih
    refine ff (nI_ge (b := 16) hi (by omega)) ⟨vp_in_nI hi (by omega), nm ?_⟩
    rw [nI_1, nI_cl (by omega)]
    refine ih _ (fun j hj => ?_)
    by_cases e : j = i
    · subst e; exact pk_us
    · rw [pk_un e]; exact hg j (by omega)
theorem p_18 : St_18 Inw := by
  intro XI XA XL MI MA ML hI a1
  obtain ⟨P, S, hq, hN, hW, hPa, hH, hg, hF, hT, hb1, hb2, hs⟩ := id hI
  obtain ⟨R, n, hR, hn, r1, r2, w1, w2, hrow, hway⟩ := hH
  have hno : Inw (va_up XI 7 (XI 7)) (va_up XA 7 (XA 7)) XL (va_up MI 5 (MI 5)) (va_up MA 26 (MA 26)) ML := by simp only [up_same]; exact hI
  unfold ls_18 w_X9_row w_X10_row
  rcases rng a1 16 (by omega) with f | ⟨w, hw, rfl, f1, f2⟩
  · by_cases f1 : a1 < 0
    · exact tt f1 (isInR_no (n := 16) f (y0 ⟨rfl, hno⟩))
    · exact ff f1 (ff (Int32.not_le.mpr (f.resolve_left f1)) (isInR_no (n := 16) f (y0 ⟨rfl, hno⟩)))
  · refine ff f1 (tt f2 (fill_spec (by omega) (fun g hg1 hg2 => isInR_yes (n := 16) f1 f2 (y1 (rowM_spec (fun x g' hg' => ⟨rfl, ?_⟩))))))
    exact ⟨P, S, hq, hN, hW, hPa, ⟨w, n, hw, hn, rfl, rfl, w1, w2, fun i hi => (hg1 i hi).trans (hg' i hi).symm, hway⟩, hg, hF, hT, hb1, hb2, hs⟩
def sumL (f : Nat → Int32) : Nat → Int64
  | 0 => 0
  | n + 1 => sumL f n + (f n).toInt64
theorem sumL_congr {f g : Nat → Int32} : ∀ n, (∀ i, i < n → f i = g i) → sumL f n = sumL g n
  | 0, _ => rfl
  | n + 1, h => by
    show sumL f n + (f n).toInt64 = sumL g n + (g n).toInt64
    rw [sumL_congr n (fun i hi => h i (by omega)), h n (by omega)]
theorem shareX_spec {a1 : Int32} {P : Nat} {f : Nat → Int32} {post : Int32 → Prop} {K : Int64 → Int32 → Prop} (hP : P ≤ 16) (h : ∀ x, K (sumL f P) x) : ∃ n : Nat, w_X9_share_L19 a1 (nI P) f post K n 0 0 := by
  refine pk_loop (fun n i (g : Int64) => w_X9_share_L19 a1 (nI P) f post K n g (nI i)) (fun i g => g = sumL f i) P 0 0 (by omega) rfl ?_ ?_
  · intro n g hg
    subst hg
    exact tt (nI_le (Nat.le_refl P) (by omega)) (h _)
  · intro n i g hi hg ih
    subst hg
    refine ff (nI_ge hi (by omega)) ⟨vp_in_nI (by omega) (by omega), nm (nm ?_)⟩
    rw [nI_1, nI_cl (by omega)]
    exact ih _ rfl
theorem shareM_spec {a1 : Int32} {P : Nat} {f : Nat → Int32} {post : Int32 → Prop} {K : Int64 → Int32 → Prop} (hP : P ≤ 16) (h : ∀ x, K (sumL f P) x) : ∃ n : Nat, w_X10_share_L16 a1 (nI P) f post K n 0 0 := by
  refine pk_loop (fun n i (g : Int64) => w_X10_share_L16 a1 (nI P) f post K n g (nI i)) (fun i g => g = sumL f i) P 0 0 (by omega) rfl ?_ ?_
  · intro n g hg
    subst hg
    exact tt (nI_le (Nat.le_refl P) (by omega)) (h _)
  · intro n i g hi hg ih
    subst hg
    refine ff (nI_ge hi (by omega)) ⟨vp_in_nI (by omega) (by omega), nm (nm ?_)⟩
    rw [nI_1, nI_cl (by omega)]
    exact ih _ rfl
theorem p_13 : St_13 Inw := by
  intro XI XA XL MI MA ML hI a1
  obtain ⟨P, S, hq, hN, hW, -⟩ := id hI
  have hP16 : P ≤ 16 := hN.1.1
  unfold ls_13 w_X9_share w_X10_share
  rw [hq.1, hq.2.1]
  rcases ix3 a1 P (by omega) with h | ⟨p, hp, rfl, h1, h2⟩
  · exact hasPlace_no h (y0 (isPlace_no h (y0 ⟨rfl, hI⟩)))
  have hin : vp_in (nI p) 16 := vp_in_nI (by omega) (by omega)
  have es : sumL (XA 20) P = sumL (MA 11) P := sumL_congr P (fun i hi => (hW i (by omega)).1)
  refine hasPlace_yes h1 h2 (y1 (shareX_spec hP16 (fun x => ?_)))
  by_cases c : lg_cmp (sumL (XA 20) P) 0 = 0
  · refine nt c (isPlace_yes h1 h2 (y1 (shareM_spec hP16 (fun x => ?_))))
    rw [← es]
    exact nt c ⟨rfl, hI⟩
  · have c0 : ¬ sumL (XA 20) P = 0 := fun q => c ((lg_cmp_eq _ _).mpr q)
    refine nf c ⟨hin, c0, isPlace_yes h1 h2 (y1 (shareM_spec hP16 (fun x => ?_)))⟩
    rw [← es]
    refine nf c ⟨hin, c0, ?_, hI⟩
    rw [nI_cl (by omega), (hW p (by omega)).1, Int64.mul_comm]
theorem stretch_no {R : Nat} {a b : Int32} {post : Int32 → Prop} (h : a < 0 ∨ nI R < a ∨ (nI R - a) < b) (k : post 0) : w_X2_hasStretch (nI R) a b post := by
  by_cases h1 : a < 0
  · exact tt h1 k
  · refine ff h1 ?_
    by_cases h2 : nI R < a
    · exact tt h2 k
    · exact ff h2 (tt ((h.resolve_left h1).resolve_left h2) k)
theorem stretch_yes {R : Nat} {a b : Int32} {post : Int32 → Prop} (h1 : ¬ a < 0) (h2 : ¬ nI R < a) (h3 : ¬ (nI R - a) < b) (k : post 1) : w_X2_hasStretch (nI R) a b post := ff h1 (ff h2 (ff h3 k))
theorem copyH_spec {a b c : Nat} {rs : Int32} {row f : Nat → Int32} {post : Int32 → (Nat → Int32) → (Nat → Int32) → Prop} {K : Int32 → (Nat → Int32) → Prop} (ha : a + c ≤ 16) (h : ∀ x g, (∀ j, j < c → g j = row (a + j)) → K x g) : ∃ n : Nat, w_X10_copy_L46 (nI a) (nI b) (nI c) rs row post K n 0 f := by
  refine pk_loop (fun n i (g : Nat → Int32) => w_X10_copy_L46 (nI a) (nI b) (nI c) rs row post K n (nI i) g) (fun i g => ∀ j, j < i → g j = row (a + j)) c 0 f (by omega) (fun j hj => absurd hj (by omega)) ?_ ?_
  · intro n g hg
    exact tt (nI_le (Nat.le_refl c) (by omega)) (h _ g hg)
  · intro n i g hi hg ih
    refine ff (nI_ge hi (by omega)) ?_
    rw [nI_add]
    refine ⟨vp_in_nI (by omega) (by omega), vp_in_nI (by omega) (by omega), nm ?_⟩
    rw [nI_1, nI_cl (by omega), nI_cl (by omega)]
    refine ih _ (fun j hj => ?_)
    by_cases e : j = i
    · subst e; exact pk_us
    · rw [pk_un e]; exact hg j (by omega)
theorem copyR_spec {b c : Nat} {rs : Int32} {held f : Nat → Int32} {post : Int32 → (Nat → Int32) → (Nat → Int32) → Prop} {K : Int32 → (Nat → Int32) → Prop} (hb : b + c ≤ 16) (h : ∀ x g, (∀ j, g j = if b ≤ j ∧ j < b + c then held (j - b) else f j) → K x g) : ∃ n : Nat, w_X10_copy_L77 (nI b) (nI c) rs held post K n 0 f := by
  refine pk_loop (fun n i (g : Nat → Int32) => w_X10_copy_L77 (nI b) (nI c) rs held post K n (nI i) g) (fun i g => ∀ j, g j = if b ≤ j ∧ j < b + i then held (j - b) else f j) c 0 f (by omega) (fun j => by rw [if_neg (by omega)]) ?_ ?_
  · intro n g hg
    exact tt (nI_le (Nat.le_refl c) (by omega)) (h _ g hg)
  · intro n i g hi hg ih
    refine ff (nI_ge hi (by omega)) ?_
    rw [nI_add]
    refine ⟨vp_in_nI (by omega) (by omega), vp_in_nI (by omega) (by omega), nm ?_⟩
    rw [nI_1, nI_cl (by omega), nI_cl (by omega)]
    refine ih _ (fun j => ?_)
    by_cases e : j = b + i
    · rw [e, pk_us, if_pos (by omega)]
      congr 1
      omega
    · rw [pk_un e, hg j]
      by_cases q : b ≤ j ∧ j < b + i
      · rw [if_pos q, if_pos (by omega)]
      · rw [if_neg q, if_neg (by omega)]
theorem p_21 : St_21 Inw := by
  intro XI XA XL MI MA ML hI a1 a2 a3
  obtain ⟨P, S, hq, hN, hW, hPa, hH, hg, hF, hT, hb1, hb2, hs⟩ := id hI
  obtain ⟨R, n, hR, hn, r1, r2, w1, w2, hrow, hway⟩ := hH
  have hno : Inw XI (va_up XA 7 (XA 7)) XL MI (va_up (va_up MA 12 (MA 12)) 26 (MA 26)) ML := by simp only [up_same]; exact hI
  unfold ls_21 w_X9_copy w_X10_copy
  rw [r1, r2]
  have sub_rng : ∀ c : Nat, c ≤ R → nI R - nI c = nI (R - c) := fun c hc => pk_sub hc
  rcases rng a3 R (by omega) with f | ⟨c, hc, rfl, f1, f2⟩
  · -- the stretch is longer than the row, or below nothing
    have hM : w_X10_isIn a3 0 (nI R) (fun r1 => (r1 = 0 → (-2000000001 : Int32) = -2000000001 ∧ Inw XI (va_up XA 7 (XA 7)) XL MI (va_up (va_up MA 12 (MA 12)) 26 (MA 26)) ML) ∧ (¬ r1 = 0 → w_X10_isIn a1 0 (nI R - a3) (fun r4 => (r4 = 0 → (-2000000001 : Int32) = -2000000001 ∧ Inw XI (va_up XA 7 (XA 7)) XL MI (va_up (va_up MA 12 (MA 12)) 26 (MA 26)) ML) ∧ (¬ r4 = 0 → w_X10_isIn a2 0 (nI R - a3) (fun r7 => (¬ r7 = 0 → ∃ n : Nat, w_X10_copy_L46 a1 a2 a3 (nI R) (MA 26) (fun r8 y9 y10 => (-2000000001 : Int32) = r8 ∧ Inw XI (va_up XA 7 (XA 7)) XL MI (va_up (va_up MA 12 y9) 26 y10) ML) (fun v14 s15 => ∃ n : Nat, w_X10_copy_L77 a2 a3 (nI R) s15 (fun r8 y9 y10 => (-2000000001 : Int32) = r8 ∧ Inw XI (va_up XA 7 (XA 7)) XL MI (va_up (va_up MA 12 y9) 26 y10) ML) (fun v20 s21 => (-2000000001 : Int32) = 0 ∧ Inw XI (va_up XA 7 (XA 7)) XL MI (va_up (va_up MA 12 s15) 26 s21) ML) n 0 (MA 26)) n 0 (MA 12)) ∧ (r7 = 0 → (-2000000001 : Int32) = -2000000001 ∧ Inw XI (va_up XA 7 (XA 7)) XL MI (va_up (va_up MA 12 (MA 12)) 26 (MA 26)) ML)))))) := isInR_no f (z0 ⟨rfl, hno⟩)
    by_cases f1 : a3 < 0
    · exact tt f1 hM
    · refine ff f1 (stretch_no ?_ (z0 hM))
      by_cases g1 : a1 < 0
      · exact Or.inl g1
      · by_cases g2 : nI R < a1
        · exact Or.inr (Or.inl g2)
        · refine Or.inr (Or.inr ?_)
          obtain ⟨v, hv, rfl⟩ := nI_of2 (M := nI R) (n := R) (nI_toInt (by omega)) g1 (Int32.not_lt.mp g2)
          rw [sub_rng v hv]
          have q := Int32.lt_iff_toInt_lt.mp (f.resolve_left f1)
          rw [nI_toInt (by omega)] at q
          rw [Int32.lt_iff_toInt_lt, nI_toInt (by omega)]
          omega
  · refine ff f1 ?_
    have key : ∀ a : Int32, (a < 0 ∨ nI (R - c) < a) ↔ (a < 0 ∨ nI R < a ∨ (nI R - a) < nI c) := by
      intro a
      by_cases g1 : a < 0
      · exact ⟨fun _ => Or.inl g1, fun _ => Or.inl g1⟩
      · by_cases g2 : nI R < a
        · refine ⟨fun _ => Or.inr (Or.inl g2), fun _ => Or.inr ?_⟩
          have q := Int32.lt_iff_toInt_lt.mp g2
          rw [nI_toInt (by omega)] at q
          rw [Int32.lt_iff_toInt_lt, nI_toInt (by omega)]
          omega
        · obtain ⟨v, hv, rfl⟩ := nI_of2 (M := nI R) (n := R) (nI_toInt (by omega)) g1 (Int32.not_lt.mp g2)
          rw [sub_rng v hv, nI_ltI (a := R - c) (b := v) (by omega) (by omega), nI_ltI (a := R) (b := v) (by omega) (by omega), nI_ltI (a := R - v) (b := c) (by omega) (by omega)]
          constructor
          · intro q
            rcases q with q | q
            · exact Or.inl q
            · exact Or.inr (Or.inr (by omega))
          · intro q
            rcases q with q | q | q
            · exact Or.inl q
            · exact absurd q (by omega)
            · exact Or.inr (by omega)
    rcases rng a1 (R - c) (by omega) with g | ⟨a, ha, rfl, g1, g2⟩
    · refine stretch_no ((key a1).mp g) (z0 (isInR_yes f1 f2 (z1 ?_)))
      rw [sub_rng c hc]
      exact isInR_no g (z0 ⟨rfl, hno⟩)
    have ka : ¬ (nI a < 0 ∨ nI R < nI a ∨ (nI R - nI a) < nI c) := fun q => by
      rcases (key (nI a)).mpr q with q | q
      · exact g1 q
      · exact le_nlt g2 q
    refine stretch_yes g1 (fun q => ka (Or.inr (Or.inl q))) (fun q => ka (Or.inr (Or.inr q))) (z1 ?_)
    rcases rng a2 (R - c) (by omega) with d | ⟨b, hb, rfl, d1, d2⟩
    · refine stretch_no ((key a2).mp d) (y0 (isInR_yes f1 f2 (z1 ?_)))
      rw [sub_rng c hc]
      exact isInR_yes g1 g2 (z1 (isInR_no d (y0 ⟨rfl, hno⟩)))
    have kb : ¬ (nI b < 0 ∨ nI R < nI b ∨ (nI R - nI b) < nI c) := fun q => by
      rcases (key (nI b)).mpr q with q | q
      · exact d1 q
      · exact le_nlt d2 q
    refine stretch_yes d1 (fun q => kb (Or.inr (Or.inl q))) (fun q => kb (Or.inr (Or.inr q))) (y1 ⟨⟨g1, d1, f1, ?_, ?_⟩, isInR_yes f1 f2 (z1 ?_)⟩)
    · rw [nI_cl (by omega), nI_cl (by omega)]; omega
    · rw [nI_cl (by omega), nI_cl (by omega)]; omega
    rw [sub_rng c hc]
    refine isInR_yes g1 g2 (z1 (isInR_yes d1 d2 (y1 (copyH_spec (by omega) (fun x h hh => copyR_spec (by omega) (fun x' r hr => ⟨rfl, ?_⟩))))))
    rw [nI_cl (n := a) (by omega), nI_cl (n := b) (by omega), nI_cl (n := c) (by omega)]
    refine ⟨P, S, hq, hN, hW, hPa, ⟨R, n, hR, hn, r1, r2, w1, w2, fun i hi => ?_, hway⟩, hg, hF, hT, hb1, hb2, hs⟩
    show va_cpy (XA 7) (XA 7) a b c i = r i
    rw [hr i]
    by_cases q : b ≤ i ∧ i < b + c
    · rw [pk_cpy_in q.1 q.2, if_pos q, hh _ (by omega)]
      exact hrow _ (by omega)
    · rw [pk_cpy_out (by omega), if_neg q]
      exact hrow i hi
