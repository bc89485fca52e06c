/-! ===== sets of places as bits: one arc told ===== -/
theorem b_1 : ∀ j, j < 32 → bt 1 j = decide (j = 0) := by decide +kernel
theorem bt_one {p i : Nat} (hp : p < 32) (hi : i < 32) : bt ((1 : Int32) <<< (nI p &&& 31)) i = decide (i = p) := by
  rw [b_shl p hp 1 hi, b_1 (i - p) (by omega)]
  by_cases e : i = p
  · subst e; simp
  · by_cases l : p ≤ i
    · have : ¬ i - p = 0 := by omega
      simp [l, this, e]
    · simp [l, e]
theorem bt_set {x : Int32} {p i : Nat} (hp : p < 32) (hi : i < 32) : bt (x ||| ((1 : Int32) <<< (nI p &&& 31))) i = if i = p then true else bt x i := by
  rw [b_or, bt_one hp hi]
  by_cases e : i = p
  · simp [e]
  · simp [e]
theorem bt_clr {x : Int32} {p i : Nat} (hp : p < 32) (hi : i < 32) : bt (x &&& (((1 : Int32) <<< (nI p &&& 31)) ^^^ (-1))) i = if i = p then false else bt x i := by
  rw [b_and, b_xor, bt_one hp hi, b_m1 i hi]
  by_cases e : i = p
  · simp [e]
  · simp [e]
theorem withBit_0 {x : Int32} {p : Nat} {post : Int32 → Prop} (hp : p < 32) (k : ∀ r, (∀ i, i < 32 → bt r i = if i = p then false else bt x i) → post r) : w_X5_withBit x (nI p) 0 post := tt rfl (k _ (fun i hi => bt_clr hp hi))
theorem withBit_1 {x : Int32} {p : Nat} {post : Int32 → Prop} (hp : p < 32) (k : ∀ r, (∀ i, i < 32 → bt r i = if i = p then true else bt x i) → post r) : w_X5_withBit x (nI p) 1 post := ff (by decide) (k _ (fun i hi => bt_set hp hi))
theorem nI_z {v : Nat} (h : v < 2 ^ 31) : nI v = 0 ↔ v = 0 := nI_eq (b := 0) h (by omega)
theorem nI_lt0 {v : Nat} (h : v < 2 ^ 31) : (0 : Int32) < nI v ↔ ¬ nI v = 0 := by
  rw [nI_z h]
  constructor
  · intro q e
    subst e
    exact absurd q (by decide)
  · intro q
    exact nI_lt (a := 0) (by omega) h
theorem nI_le0 {v : Nat} (h : v < 2 ^ 31) : nI v ≤ (0 : Int32) ↔ nI v = 0 := by
  rw [← Int32.not_lt, nI_lt0 h]
  exact ⟨fun q => Classical.not_not.mp q, fun q r => r q⟩
theorem mask_step {m : Nat → Int32} {A A' : Nat → Prop} [DecidablePred A] [DecidablePred A'] {s p : Nat} {r : Int32} (hs : s < 16) (hp : p < 16) (h : ∀ s, s < 16 → ∀ i, i < 32 → bt (m s) i = decide (i < 16 ∧ A (16 * s + i))) (hA : ∀ x, x ≠ 16 * s + p → (A' x ↔ A x)) (hr : ∀ i, i < 32 → bt r i = if i = p then decide (A' (16 * s + p)) else bt (m s) i) : ∀ s', s' < 16 → ∀ i, i < 32 → bt (upd m s r s') i = decide (i < 16 ∧ A' (16 * s' + i)) := by
  intro s' hs' i hi
  by_cases e : s' = s
  · subst e
    rw [pk_us, hr i hi]
    by_cases e2 : i = p
    · subst e2
      rw [if_pos rfl]
      exact decide_eq_decide.mpr ⟨fun q => ⟨hp, q⟩, fun q => q.2⟩
    · rw [if_neg e2, h s' hs' i hi]
      exact decide_eq_decide.mpr ⟨fun q => ⟨q.1, (hA _ (by omega)).mpr q.2⟩, fun q => ⟨q.1, (hA _ (by omega)).mp q.2⟩⟩
  · rw [pk_un e, h s' hs' i hi]
    exact decide_eq_decide.mpr ⟨fun q => ⟨q.1, (hA _ (by omega)).mpr q.2⟩, fun q => ⟨q.1, (hA _ (by omega)).mp q.2⟩⟩
theorem heed_spec {cl hd nd tk : Nat → Int32} {s p : Nat} {post : (Nat → Int32) → Prop} (hs : s < 16) (hp : p < 16) (h1 : ∃ v : Nat, v ≤ 9 ∧ tk (16 * s + p) = nI v) (h2 : ∃ v : Nat, v ≤ 9 ∧ nd (16 * s + p) = nI v) (h3 : cl (16 * s + p) = 0 ∨ cl (16 * s + p) = 1)
    (k : ∀ r, (∀ i, i < 32 → bt r i = if i = p then decide (¬ tk (16 * s + p) = 0 ∨ ¬ nd (16 * s + p) = 0 ∨ ¬ cl (16 * s + p) = 0) else bt (hd s) i) → post (upd hd s r)) : w_X5_heedIfAsked cl hd nd tk (nI s) (nI p) post := by
  have hin : vp_in (nI (16 * s + p)) 256 := vp_in_nI (by omega) (by omega)
  have his : vp_in (nI s) 16 := vp_in_nI hs (by omega)
  unfold w_X5_heedIfAsked w_X9_crossing
  rw [ixC]
  refine ⟨his, hin, ?_⟩
  rw [nI_cl (n := 16 * s + p) (by omega), nI_cl (n := s) (by omega)]
  obtain ⟨v, hv, e1⟩ := h1
  obtain ⟨u, hu, e2⟩ := h2
  have yes : (¬ tk (16 * s + p) = 0 ∨ ¬ nd (16 * s + p) = 0 ∨ ¬ cl (16 * s + p) = 0) → w_X5_withBit (hd s) (nI p) 1 (fun r4 => vp_in (nI s) 16 ∧ post (upd hd s r4)) := fun c => withBit_1 (by omega) (fun r hr => ⟨his, k r (fun i hi => by rw [hr i hi]; split <;> simp_all)⟩)
  by_cases c1 : tk (16 * s + p) = 0
  · refine ff (by rw [e1, nI_lt0 (by omega), ← e1]; exact fun q => q c1) ⟨hin, ?_⟩
    by_cases c2 : nd (16 * s + p) = 0
    · refine ff (by rw [e2, nI_lt0 (by omega), ← e2]; exact fun q => q c2) ⟨hin, ?_⟩
      rcases h3 with c3 | c3
      · refine nf (by rw [c3]; decide) (withBit_0 (by omega) (fun r hr => ⟨his, k r (fun i hi => by rw [hr i hi]; split <;> simp_all)⟩))
      · exact nt c3 (yes (Or.inr (Or.inr (by rw [c3]; decide))))
    · exact tt (by rw [e2, nI_lt0 (by omega), ← e2]; exact c2) (yes (Or.inr (Or.inl c2)))
  · exact tt (by rw [e1, nI_lt0 (by omega), ← e1]; exact c1) (yes (Or.inl c1))
theorem upd_ne_iff {f : Nat → Int32} {q x : Nat} {v : Int32} (h : x ≠ q) : (¬ upd f q v x = 0 ↔ ¬ f x = 0) := by rw [pk_un h]
theorem zero_upd {f : Nat → Int32} {P S s p q : Nat} {v : Int32} (hq : q = 16 * s + p) (hs : s < S) (hp : p < P) (hP : P ≤ 16) {s' p' : Nat} (hp' : p' < 16) (h : S ≤ s' ∨ P ≤ p') : upd f q v (16 * s' + p') = f (16 * s' + p') := pk_un (by omega)
theorem p_3 : St_3 Inw := by
  intro XI XA XL MI MA ML hI a1 a2 a3
  obtain ⟨P, S, hq, hN, hW, hPa, hH, hg, hF, hT, hb1, hb2, hs⟩ := id hI
  obtain ⟨q9, m0, q10, m1, k5, k27, k29, k24, k16, k4, k31, k10⟩ := id hq
  obtain ⟨⟨hP16, hS16⟩, n1, n2, n3, n4, n5, n6, n7, n8, n9, n10, n11, n12, n13, n14⟩ := id hN
  have hno : Inw (va_up (va_up (va_up (va_up (va_up (va_up XI 2 (XI 2)) 13 (XI 13)) 15 (XI 15)) 16 (XI 16)) 18 (XI 18)) 23 (XI 23)) (va_up (va_up XA 11 (XA 11)) 12 (XA 12)) XL (va_up (va_up (va_up (va_up (va_up (va_up (va_up (va_up MI 3 (MI 3)) 7 (MI 7)) 8 (MI 8)) 10 (MI 10)) 11 (MI 11)) 12 (MI 12)) 13 (MI 13)) 14 (MI 14)) (va_up MA 16 (MA 16)) ML := by simp only [up_same]; exact hI
  unfold ls_3 w_X9_need w_X10_need w_X9_netChanges w_X6_clear w_X10_changed w_X5_tellNeed w_X9_crossing
  rw [q9, m0, q10, m1]
  rcases ix3 a1 S (by omega) with h | ⟨s, hs', rfl, h1, h2⟩
  · exact hasBoth_no1 h (z0 (isStep_no h (z0 ⟨rfl, hno⟩)))
  rcases ix3 a2 P (by omega) with g | ⟨p, hp, rfl, g1, g2⟩
  · exact hasBoth_no2 h1 h2 g (z0 (isStep_yes h1 h2 (z1 (isPlace_no g (z0 ⟨rfl, hno⟩)))))
  refine hasBoth_yes h1 h2 g1 g2 (z1 ?_)
  rcases rng a3 9 (by omega) with f | ⟨w, hw, rfl, f1, f2⟩
  · exact isArc_no f (y0 (isStep_yes h1 h2 (z1 (isPlace_yes g1 g2 (z1 (isInR_no (n := 9) f (y0 ⟨rfl, hno⟩)))))))
  have his : vp_in (nI s) 16 := vp_in_nI (by omega) (by omega)
  have hin : vp_in (nI (16 * s + p)) 256 := vp_in_nI (by omega) (by omega)
  refine isArc_yes f1 f2 (y1 ⟨his, ?_⟩)
  rw [nI_cl (n := s) (by omega), ixC]
  by_cases c : (1 : Int32) ≤ XA 16 s
  · refine tt c ⟨hin, ?_⟩
    rw [nI_cl (n := 16 * s + p) (by omega)]
    refine heed_spec (by omega) (by omega) (n3 _ (by omega)) ⟨w, hw, pk_us⟩ (n6 _ (by omega)) (fun r hr => ?_)
    refine isStep_yes h1 h2 (z1 (isPlace_yes g1 g2 (z1 (isInR_yes (n := 9) f1 f2 (y1 ⟨his, ?_⟩)))))
    rw [k27]
    refine tt c ?_
    rw [ixA]
    refine ⟨hin, rfl, ?_⟩
    rw [nI_cl (n := 16 * s + p) (by omega)]
    refine ⟨P, S, ⟨q9, m0, q10, m1, k5, k27, k29, k24, ?_, k4, k31, k10⟩, ⟨⟨hP16, hS16⟩, n1, n2, n3, n4, rng_upd n5 hw, n6, n7, n8, ?_, ?_, n11, n12, ?_, n14⟩, hW, cPast_clear hPa, hH, hg, Or.inl ⟨rfl, rfl, rfl⟩, Or.inl ⟨rfl, rfl, rfl⟩, cBal_0, cBal_0, cSets_0⟩
    · show upd (MA 16) (16 * s + p) (nI w) = upd (XA 12) (16 * s + p) (nI w)
      rw [k16]
    · intro s' p' hs1 hp1 hx
      show XA 17 (16 * s' + p') = 0 ∧ XA 14 (16 * s' + p') = 0 ∧ upd (XA 12) (16 * s + p) (nI w) (16 * s' + p') = 0 ∧ XA 9 (16 * s' + p') = 0
      rw [zero_upd rfl hs' hp hP16 hp1 hx]
      exact n9 s' p' hs1 hp1 hx
    · intro s' p' hs1 hp1
      show (XA 16 s' < 1 → upd (XA 12) (16 * s + p) (nI w) (16 * s' + p') = 0) ∧ (XA 16 s' < 2 → XA 9 (16 * s' + p') = 0)
      refine ⟨fun hk => ?_, (n10 s' p' hs1 hp1).2⟩
      by_cases e : s' = s
      · subst e; exact absurd hk (le_nlt c)
      · rw [pk_un (by omega)]; exact (n10 s' p' hs1 hp1).1 hk
    · exact mask_step (A := fun x => ¬ XA 17 x = 0 ∨ ¬ XA 12 x = 0 ∨ ¬ XA 9 x = 0) (A' := fun x => ¬ XA 17 x = 0 ∨ ¬ upd (XA 12) (16 * s + p) (nI w) x = 0 ∨ ¬ XA 9 x = 0) (by omega) (by omega) n13 (fun x hx => by rw [pk_un hx]) hr
  · refine ff c (isStep_yes h1 h2 (z1 (isPlace_yes g1 g2 (z1 (isInR_yes (n := 9) f1 f2 (y1 ⟨his, ?_⟩))))))
    rw [k27]
    exact ff c ⟨rfl, hno⟩
theorem p_4 : St_4 Inw := by
  intro XI XA XL MI MA ML hI a1 a2 a3
  obtain ⟨P, S, hq, hN, hW, hPa, hH, hg, hF, hT, hb1, hb2, hs⟩ := id hI
  obtain ⟨q9, m0, q10, m1, k5, k27, k29, k24, k16, k4, k31, k10⟩ := id hq
  obtain ⟨⟨hP16, hS16⟩, n1, n2, n3, n4, n5, n6, n7, n8, n9, n10, n11, n12, n13, n14⟩ := id hN
  have hno : Inw (va_up (va_up (va_up (va_up (va_up (va_up XI 2 (XI 2)) 13 (XI 13)) 15 (XI 15)) 16 (XI 16)) 18 (XI 18)) 23 (XI 23)) (va_up (va_up XA 9 (XA 9)) 11 (XA 11)) XL (va_up (va_up (va_up (va_up (va_up (va_up (va_up (va_up MI 3 (MI 3)) 7 (MI 7)) 8 (MI 8)) 10 (MI 10)) 11 (MI 11)) 12 (MI 12)) 13 (MI 13)) 14 (MI 14)) (va_up MA 4 (MA 4)) ML := by simp only [up_same]; exact hI
  unfold ls_4 w_X9_close w_X10_close w_X9_netChanges w_X6_clear w_X10_changed w_X5_tellClosed w_X9_crossing
  rw [q9, m0, q10, m1]
  rcases ix3 a1 S (by omega) with h | ⟨s, hs', rfl, h1, h2⟩
  · exact hasBoth_no1 h (z0 (isStep_no h (z0 ⟨rfl, hno⟩)))
  rcases ix3 a2 P (by omega) with g | ⟨p, hp, rfl, g1, g2⟩
  · exact hasBoth_no2 h1 h2 g (z0 (isStep_yes h1 h2 (z1 (isPlace_no g (z0 ⟨rfl, hno⟩)))))
  refine hasBoth_yes h1 h2 g1 g2 (z1 ?_)
  rcases rng a3 1 (by omega) with f | ⟨w, hw, rfl, f1, f2⟩
  · by_cases f1 : a3 < 0
    · exact tt f1 (isStep_yes h1 h2 (z1 (isPlace_yes g1 g2 (z1 (isInR_no (n := 1) f (y0 ⟨rfl, hno⟩))))))
    · exact ff f1 (ff (Int32.not_le.mpr (f.resolve_left f1)) (isStep_yes h1 h2 (z1 (isPlace_yes g1 g2 (z1 (isInR_no (n := 1) f (y0 ⟨rfl, hno⟩)))))))
  have his : vp_in (nI s) 16 := vp_in_nI (by omega) (by omega)
  have hin : vp_in (nI (16 * s + p)) 256 := vp_in_nI (by omega) (by omega)
  have hw01 : nI w = 0 ∨ nI w = 1 := by
    rcases (show w = 0 ∨ w = 1 by omega) with rfl | rfl
    · exact Or.inl rfl
    · exact Or.inr rfl
  refine ff f1 (tt f2 ⟨his, ?_⟩)
  rw [nI_cl (n := s) (by omega), ixC]
  by_cases c : (2 : Int32) ≤ XA 16 s
  · refine tt c ⟨hin, ?_⟩
    rw [nI_cl (n := 16 * s + p) (by omega)]
    refine heed_spec (by omega) (by omega) (n3 _ (by omega)) (n5 _ (by omega)) (by rw [pk_us]; exact hw01) (fun r hr => ?_)
    refine isStep_yes h1 h2 (z1 (isPlace_yes g1 g2 (z1 (isInR_yes (n := 1) f1 f2 (y1 ⟨his, ?_⟩)))))
    rw [k27]
    refine tt c ?_
    rw [ixA]
    refine ⟨hin, rfl, ?_⟩
    rw [nI_cl (n := 16 * s + p) (by omega)]
    refine ⟨P, S, ⟨q9, m0, q10, m1, k5, k27, k29, k24, k16, ?_, k31, k10⟩, ⟨⟨hP16, hS16⟩, n1, n2, n3, n4, n5, ?_, n7, n8, ?_, ?_, n11, n12, ?_, n14⟩, hW, cPast_clear hPa, hH, hg, Or.inl ⟨rfl, rfl, rfl⟩, Or.inl ⟨rfl, rfl, rfl⟩, cBal_0, cBal_0, cSets_0⟩
    · show upd (MA 4) (16 * s + p) (nI w) = upd (XA 9) (16 * s + p) (nI w)
      rw [k4]
    · intro i hi
      show upd (XA 9) (16 * s + p) (nI w) i = 0 ∨ upd (XA 9) (16 * s + p) (nI w) i = 1
      by_cases e : i = 16 * s + p
      · rw [e, pk_us]; exact hw01
      · rw [pk_un e]; exact n6 i hi
    · intro s' p' hs1 hp1 hx
      show XA 17 (16 * s' + p') = 0 ∧ XA 14 (16 * s' + p') = 0 ∧ XA 12 (16 * s' + p') = 0 ∧ upd (XA 9) (16 * s + p) (nI w) (16 * s' + p') = 0
      rw [zero_upd rfl hs' hp hP16 hp1 hx]
      exact n9 s' p' hs1 hp1 hx
    · intro s' p' hs1 hp1
      show (XA 16 s' < 1 → XA 12 (16 * s' + p') = 0) ∧ (XA 16 s' < 2 → upd (XA 9) (16 * s + p) (nI w) (16 * s' + p') = 0)
      refine ⟨(n10 s' p' hs1 hp1).1, fun hk => ?_⟩
      by_cases e : s' = s
      · subst e; exact absurd hk (le_nlt c)
      · rw [pk_un (by omega)]; exact (n10 s' p' hs1 hp1).2 hk
    · exact mask_step (A := fun x => ¬ XA 17 x = 0 ∨ ¬ XA 12 x = 0 ∨ ¬ XA 9 x = 0) (A' := fun x => ¬ XA 17 x = 0 ∨ ¬ XA 12 x = 0 ∨ ¬ upd (XA 9) (16 * s + p) (nI w) x = 0) (by omega) (by omega) n13 (fun x hx => by rw [pk_un hx]) hr
  · refine ff c (isStep_yes h1 h2 (z1 (isPlace_yes g1 g2 (z1 (isInR_yes (n := 1) f1 f2 (y1 ⟨his, ?_⟩))))))
    rw [k27]
    exact ff c ⟨rfl, hno⟩
theorem connect_spec {cl hd nd pt pi tk tf : Nat → Int32} {s p v u : Nat} {post : (Nat → Int32) → (Nat → Int32) → (Nat → Int32) → (Nat → Int32) → (Nat → Int32) → Prop} (hs : s < 16) (hp : p < 16) (hv : v ≤ 9) (hu : u ≤ 9) (h2 : ∃ v : Nat, v ≤ 9 ∧ nd (16 * s + p) = nI v) (h3 : cl (16 * s + p) = 0 ∨ cl (16 * s + p) = 1)
    (k : ∀ r1 r2 r3, (∀ i, i < 32 → bt r1 i = if i = p then decide (¬ upd tk (16 * s + p) (nI v) (16 * s + p) = 0 ∨ ¬ nd (16 * s + p) = 0 ∨ ¬ cl (16 * s + p) = 0) else bt (hd s) i) → (∀ i, i < 32 → bt r2 i = if i = p then decide (¬ upd pt (16 * s + p) (nI u) (16 * s + p) = 0) else bt (pi s) i) → (∀ i, i < 32 → bt r3 i = if i = p then decide (¬ upd tk (16 * s + p) (nI v) (16 * s + p) = 0) else bt (tf s) i) →
      post (upd hd s r1) (upd pt (16 * s + p) (nI u)) (upd pi s r2) (upd tk (16 * s + p) (nI v)) (upd tf s r3)) : w_X5_connect cl hd nd pt pi tk tf (nI s) (nI p) (nI v) (nI u) post := by
  have hin : vp_in (nI (16 * s + p)) 256 := vp_in_nI (by omega) (by omega)
  have his : vp_in (nI s) 16 := vp_in_nI hs (by omega)
  unfold w_X5_connect w_X9_crossing
  rw [ixC]
  refine ⟨hin, hin, his, ?_⟩
  rw [nI_cl (n := 16 * s + p) (by omega), nI_cl (n := s) (by omega)]
  have fin : ∀ r2 r3, (∀ i, i < 32 → bt r2 i = if i = p then decide (¬ upd pt (16 * s + p) (nI u) (16 * s + p) = 0) else bt (pi s) i) → (∀ i, i < 32 → bt r3 i = if i = p then decide (¬ upd tk (16 * s + p) (nI v) (16 * s + p) = 0) else bt (tf s) i) → w_X5_heedIfAsked cl hd nd (upd tk (16 * s + p) (nI v)) (nI s) (nI p) (fun y9 => post y9 (upd pt (16 * s + p) (nI u)) (upd pi s r2) (upd tk (16 * s + p) (nI v)) (upd tf s r3)) :=
    fun r2 r3 g2 g3 => heed_spec hs hp ⟨v, hv, pk_us⟩ h2 h3 (fun r1 g1 => k r1 r2 r3 g1 g2 g3)
  by_cases c1 : nI v = 0
  · refine tt ((nI_le0 (by omega)).mpr c1) (withBit_0 (by omega) (fun r3 g3 => ⟨his, his, ?_⟩))
    have g3' : ∀ i, i < 32 → bt r3 i = if i = p then decide (¬ upd tk (16 * s + p) (nI v) (16 * s + p) = 0) else bt (tf s) i := fun i hi => by rw [g3 i hi, pk_us]; split <;> simp_all
    by_cases c2 : nI u = 0
    · exact tt ((nI_le0 (by omega)).mpr c2) (withBit_0 (by omega) (fun r2 g2 => ⟨his, fin r2 r3 (fun i hi => by rw [g2 i hi, pk_us]; split <;> simp_all) g3'⟩))
    · exact ff (fun q => c2 ((nI_le0 (by omega)).mp q)) (withBit_1 (by omega) (fun r2 g2 => ⟨his, fin r2 r3 (fun i hi => by rw [g2 i hi, pk_us]; split <;> simp_all) g3'⟩))
  · refine ff (fun q => c1 ((nI_le0 (by omega)).mp q)) (withBit_1 (by omega) (fun r3 g3 => ⟨his, his, ?_⟩))
    have g3' : ∀ i, i < 32 → bt r3 i = if i = p then decide (¬ upd tk (16 * s + p) (nI v) (16 * s + p) = 0) else bt (tf s) i := fun i hi => by rw [g3 i hi, pk_us]; split <;> simp_all
    by_cases c2 : nI u = 0
    · exact tt ((nI_le0 (by omega)).mpr c2) (withBit_0 (by omega) (fun r2 g2 => ⟨his, fin r2 r3 (fun i hi => by rw [g2 i hi, pk_us]; split <;> simp_all) g3'⟩))
    · exact ff (fun q => c2 ((nI_le0 (by omega)).mp q)) (withBit_1 (by omega) (fun r2 g2 => ⟨his, fin r2 r3 (fun i hi => by rw [g2 i hi, pk_us]; split <;> simp_all) g3'⟩))
theorem p_2 : St_2 Inw := by
  intro XI XA XL MI MA ML hI a1 a2 a3 a4
  obtain ⟨P, S, hq, hN, hW, hPa, hH, hg, hF, hT, hb1, hb2, hs⟩ := id hI
  obtain ⟨q9, m0, q10, m1, k5, k27, k29, k24, k16, k4, k31, k10⟩ := id hq
  obtain ⟨⟨hP16, hS16⟩, n1, n2, n3, n4, n5, n6, n7, n8, n9, n10, n11, n12, n13, n14⟩ := id hN
  have hno : Inw (va_up (va_up (va_up (va_up (va_up (va_up XI 2 (XI 2)) 13 (XI 13)) 15 (XI 15)) 16 (XI 16)) 18 (XI 18)) 23 (XI 23)) (va_up (va_up (va_up (va_up (va_up XA 11 (XA 11)) 14 (XA 14)) 15 (XA 15)) 17 (XA 17)) 18 (XA 18)) XL (va_up (va_up (va_up (va_up (va_up (va_up (va_up (va_up MI 3 (MI 3)) 7 (MI 7)) 8 (MI 8)) 10 (MI 10)) 11 (MI 11)) 12 (MI 12)) 13 (MI 13)) 14 (MI 14)) (va_up (va_up MA 24 (MA 24)) 29 (MA 29)) ML := by simp only [up_same]; exact hI
  unfold ls_2 w_X9_arc w_X10_arc w_X9_netChanges w_X6_clear w_X10_changed
  rw [q9, m0, q10, m1]
  rcases ix3 a1 S (by omega) with h | ⟨s, hs', rfl, h1, h2⟩
  · exact hasBoth_no1 h (z0 (isStep_no h (z0 ⟨rfl, hno⟩)))
  rcases ix3 a2 P (by omega) with g | ⟨p, hp, rfl, g1, g2⟩
  · exact hasBoth_no2 h1 h2 g (z0 (isStep_yes h1 h2 (z1 (isPlace_no g (z0 ⟨rfl, hno⟩)))))
  refine hasBoth_yes h1 h2 g1 g2 (z1 ?_)
  rcases rng a3 9 (by omega) with f | ⟨w, hw, rfl, f1, f2⟩
  · exact isArc_no f (z0 (isStep_yes h1 h2 (z1 (isPlace_yes g1 g2 (z1 (isInR_no (n := 9) f (z0 ⟨rfl, hno⟩)))))))
  refine isArc_yes f1 f2 (z1 ?_)
  rcases rng a4 9 (by omega) with d | ⟨u, hu, rfl, d1, d2⟩
  · exact isArc_no d (y0 (isStep_yes h1 h2 (z1 (isPlace_yes g1 g2 (z1 (isInR_yes (n := 9) f1 f2 (z1 (isInR_no (n := 9) d (y0 ⟨rfl, hno⟩)))))))))
  have hin : vp_in (nI (16 * s + p)) 256 := vp_in_nI (by omega) (by omega)
  refine isArc_yes d1 d2 (y1 (connect_spec (by omega) (by omega) hw hu (n5 _ (by omega)) (n6 _ (by omega)) (fun r1 r2 r3 hr1 hr2 hr3 => ?_)))
  refine isStep_yes h1 h2 (z1 (isPlace_yes g1 g2 (z1 (isInR_yes (n := 9) f1 f2 (z1 (isInR_yes (n := 9) d1 d2 (y1 ?_)))))))
  rw [ixA]
  refine ⟨hin, hin, rfl, ?_⟩
  rw [nI_cl (n := 16 * s + p) (by omega)]
  refine ⟨P, S, ⟨q9, m0, q10, m1, k5, k27, ?_, ?_, k16, k4, k31, k10⟩, ⟨⟨hP16, hS16⟩, n1, n2, rng_upd n3 hw, rng_upd n4 hu, n5, n6, n7, n8, ?_, n10, ?_, ?_, ?_, n14⟩, hW, cPast_clear hPa, hH, hg, Or.inl ⟨rfl, rfl, rfl⟩, Or.inl ⟨rfl, rfl, rfl⟩, cBal_0, cBal_0, cSets_0⟩
  · show upd (MA 29) (16 * s + p) (nI w) = upd (XA 17) (16 * s + p) (nI w)
    rw [k29]
  · show upd (MA 24) (16 * s + p) (nI u) = upd (XA 14) (16 * s + p) (nI u)
    rw [k24]
  · intro s' p' hs1 hp1 hx
    show upd (XA 17) (16 * s + p) (nI w) (16 * s' + p') = 0 ∧ upd (XA 14) (16 * s + p) (nI u) (16 * s' + p') = 0 ∧ XA 12 (16 * s' + p') = 0 ∧ XA 9 (16 * s' + p') = 0
    rw [zero_upd rfl hs' hp hP16 hp1 hx, zero_upd rfl hs' hp hP16 hp1 hx]
    exact n9 s' p' hs1 hp1 hx
  · exact mask_step (A := fun x => ¬ XA 17 x = 0) (A' := fun x => ¬ upd (XA 17) (16 * s + p) (nI w) x = 0) (by omega) (by omega) n11 (fun x hx => by rw [pk_un hx]) hr3
  · exact mask_step (A := fun x => ¬ XA 14 x = 0) (A' := fun x => ¬ upd (XA 14) (16 * s + p) (nI u) x = 0) (by omega) (by omega) n12 (fun x hx => by rw [pk_un hx]) hr2
  · exact mask_step (A := fun x => ¬ XA 17 x = 0 ∨ ¬ XA 12 x = 0 ∨ ¬ XA 9 x = 0) (A' := fun x => ¬ upd (XA 17) (16 * s + p) (nI w) x = 0 ∨ ¬ XA 12 x = 0 ∨ ¬ XA 9 x = 0) (by omega) (by omega) n13 (fun x hx => by rw [pk_un hx]) hr1
