/-! ===== field, way, find, dead ===== -/
theorem fieldC {P : Nat} {v1 fs hf st : Int32} {by_ cl colour field former has nd next order pt sk tk f : Nat → Int32} {post : Int32 → Int32 → Int32 → (Nat → Int32) → (Nat → Int32) → (Nat → Int32) → (Nat → Int32) → (Nat → Int32) → (Nat → Int32) → Prop} {K : Int32 → (Nat → Int32) → Prop} (hP : P ≤ 16) (h : ∀ z g, (∀ p, p < P → g p = has p) → K z g) : ∃ n : Nat, w_X10_field_L26 v1 fs hf (nI P) st by_ cl colour field former has nd next order pt sk tk post K n 0 f := by
  refine pk_loop (fun n i (g : Nat → Int32) => w_X10_field_L26 v1 fs hf (nI P) st by_ cl colour field former has nd next order pt sk tk post K n (nI i) g) (fun i g => ∀ p, p < i → g p = has p) P 0 f (by omega) (fun p hp => absurd hp (by omega)) ?_ ?_
  · intro n g hg
    exact tt (nI_le (Nat.le_refl P) (by omega)) (h _ g hg)
  · intro n i g hi hg ih
    refine ff (nI_ge hi (by omega)) ⟨vp_in_nI (by omega) (by omega), vp_in_nI (by omega) (by omega), nm ?_⟩
    rw [nI_1, nI_cl (n := i) (by omega)]
    refine ih _ (fun p hp => ?_)
    by_cases e : p = i
    · rw [e, pk_us]
    · rw [pk_un e]; exact hg p (by omega)
theorem fRl_of {P S n : Nat} {by_ cells former heads links firstIn nexts otherIn mby mfield mformer mnext morder : Nat → Int32} (hx' : xF P S n n 0 by_ cells former heads links nexts) (hm : mF P S n n 0 by_ cells former nexts mby mfield mformer mnext morder) : fRl P S n 0 by_ cells former heads links firstIn nexts otherIn mby mfield mformer mnext morder := by
  obtain ⟨a1, a2, a3, a4, a5, a6, a7⟩ := hx'
  obtain ⟨b1, b2, b3, b4⟩ := hm
  refine ⟨a1, fun i p hi hp => b1 i p hi hp, fun i s hi hs => ⟨b4 i s hs (Or.inl hi), a7 i s hs (Or.inl hi)⟩, ⟨a3.1, a3.2, ?_, ?_⟩, fun i h0 hi => ?_, a5, a6, b3, Or.inl rfl⟩
  · rw [← (b2 0 (by omega)).1]; exact a3.1
  · rw [← (b2 0 (by omega)).2]; exact a3.2
  · obtain ⟨a, t, h1, h2, h3, h4⟩ := a4 i h0 hi
    exact ⟨a, t, h1, h2, h3, by rw [← (b2 i hi).1]; exact h3, h4, by rw [← (b2 i hi).2]; exact h4⟩
theorem p_26 : St_26 Inw := by
  intro XI XA XL MI MA ML hI a1
  obtain ⟨P, S, hq, hN, hW, hPa, hH, hg, hF, hT, hb1, hb2, hs⟩ := id hI
  obtain ⟨q9, m0, q10, m1, k5, k27, k29, k24, k16, k4, k31, k10⟩ := id hq
  have hP16 : P ≤ 16 := hN.1.1
  have hS16 : S ≤ 16 := hN.1.2
  have hno : Inw (va_up (va_up (va_up (va_up (va_up XI 18 (XI 18)) 19 (XI 19)) 20 (XI 20)) 21 (XI 21)) 22 (XI 22)) (va_up (va_up (va_up (va_up (va_up (va_up (va_up (va_up XA 26 (XA 26)) 27 (XA 27)) 28 (XA 28)) 29 (XA 29)) 30 (XA 30)) 32 (XA 32)) 34 (XA 34)) 37 (XA 37)) (va_up XL 6 (XL 6)) (va_up (va_up MI 7 (MI 7)) 8 (MI 8)) (va_up (va_up (va_up (va_up (va_up (va_up MA 3 (MA 3)) 6 (MA 6)) 7 (MA 7)) 8 (MA 8)) 17 (MA 17)) 20 (MA 20)) ML := by simp only [up_same]; exact hI
  unfold ls_26 w_X9_field w_X10_field
  rw [q9, m0, q10, m1, k5, k27, k29, k16, k4, k24]
  by_cases c1 : a1 < 1
  · exact tt c1 (isIn_lo c1 (y0 ⟨rfl, hno⟩))
  refine ff c1 ?_
  by_cases c2 : ¬ a1 ≤ 8000
  · exact ff c2 (isIn_hi (nlt_le c2) (y0 ⟨rfl, hno⟩))
  have c2 := Decidable.not_not.mp c2
  refine tt c2 ?_
  obtain ⟨M, hM1, rfl⟩ : ∃ N : Nat, N ≤ 8000 ∧ a1 = nI N := nI_of2 (M := 8000) (by decide) (fun q => c1 (lt0_1 q)) c2
  have hM0 : 1 ≤ M := by
    rcases Nat.eq_zero_or_pos M with e | e
    · subst e; exact absurd (by decide) c1
    · exact e
  by_cases cz : ¬ XI 11 ≤ 0
  · exact ff cz (isIn_in c1 (le_nlt c2) (y1 (hasColN hN (fun q => absurd ((co_le hN).mpr q) cz) (fun _ => z1 ⟨rfl, hno⟩))))
  have cz := Decidable.not_not.mp cz
  have cz' := (co_le hN).mp cz
  refine tt cz (make_spec hN cz' hM0 hM1 (fun p hp => ?_) (fun n by' cells' former' heads' links' from' nexts' to' toT' hx' hM' => z1 ?_) (fun sz' by' cells' former' heads' links' from' nexts' to' toT' hM' => z0 ?_))
  · obtain ⟨e, v, ev, bv, -⟩ := hW p (by omega)
    exact ⟨v, e.trans ev, bv⟩
  · refine isIn_in c1 (le_nlt c2) (y1 (hasColN hN (fun _ => z0 (fieldC hP16 (fun z g hg' => ?_))) (fun q => absurd cz' q)))
    refine hM' _ (fun p hp => (hg' p hp).trans (hW p (by omega)).1.symm) (fun mby' come' mfield' mformer' mnext' morder' hm => ⟨rfl, ?_⟩)
    exact ⟨P, S, hq, hN, hW, hPa, hH, hg, Or.inr ⟨rfl, rfl, n, rfl, rfl, rfl, rfl, fRl_of hx' hm⟩, hT, hb1, hb2, hs⟩
  · refine isIn_in c1 (le_nlt c2) (y1 (hasColN hN (fun _ => z0 (fieldC hP16 (fun z g hg' => ?_))) (fun q => absurd cz' q)))
    refine hM' _ (fun p hp => (hg' p hp).trans (hW p (by omega)).1.symm) (fun mby' come' mfield' mformer' mnext' morder' => ⟨rfl, ?_⟩)
    exact ⟨P, S, hq, hN, hW, hPa, hH, hg, Or.inl ⟨rfl, rfl, rfl⟩, hT, hb1, hb2, hs⟩
/-! ===== ways back to the beginning ===== -/
theorem NONE_cl : (NONE).toNatClampNeg = 0 := by decide
section CH
variable {n : Nat} {former : Nat → Int32}
theorem an_step (hf : ∀ j, 0 < j → j < n → ∃ a : Nat, a < j ∧ former j = nI a) (hn : n ≤ 8000) {i k : Nat} (h0 : 0 < an former k i) (hl : an former k i < n) : an former (k + 1) i < an former k i ∧ former (an former k i) = nI (an former (k + 1) i) := by
  obtain ⟨a, ha, e⟩ := hf _ h0 hl
  have : an former (k + 1) i = a := by
    show (former (an former k i)).toNatClampNeg = a
    rw [e, nI_cl (by omega)]
  rw [this]; exact ⟨ha, e⟩
theorem an_dep (hf : ∀ j, 0 < j → j < n → ∃ a : Nat, a < j ∧ former j = nI a) (hn : n ≤ 8000) {i : Nat} (hi : i < n) : ∀ b, b ≤ i → (∃ d, d ≤ b ∧ an former d i = 0 ∧ ∀ m, m < d → 0 < an former m i ∧ an former m i + m ≤ i) ∨ (∀ m, m ≤ b → 0 < an former m i ∧ an former m i + m ≤ i)
  | 0, _ => by
    rcases Nat.eq_zero_or_pos i with e | e
    · exact Or.inl ⟨0, Nat.le_refl 0, e, fun m hm => absurd hm (by omega)⟩
    · exact Or.inr (fun m hm => by
        have : m = 0 := by omega
        subst this; exact ⟨e, Nat.le_refl i⟩)
  | b + 1, hb => by
    rcases an_dep hf hn hi b (by omega) with ⟨d, h1, h2, h3⟩ | h
    · exact Or.inl ⟨d, by omega, h2, h3⟩
    · obtain ⟨p1, p2⟩ := h b (Nat.le_refl b)
      obtain ⟨s1, s2⟩ := an_step hf hn p1 (by omega)
      rcases Nat.eq_zero_or_pos (an former (b + 1) i) with e | e
      · exact Or.inl ⟨b + 1, Nat.le_refl _, e, fun m hm => h m (by omega)⟩
      · exact Or.inr (fun m hm => by
          by_cases em : m = b + 1
          · subst em; exact ⟨e, by omega⟩
          · exact h m (by omega))
/-- how deep a node lies -/
theorem an_depth (hf : ∀ j, 0 < j → j < n → ∃ a : Nat, a < j ∧ former j = nI a) (hn : n ≤ 8000) {i : Nat} (hi : i < n) : ∃ d, d ≤ i ∧ an former d i = 0 ∧ ∀ m, m < d → 0 < an former m i ∧ an former m i + m ≤ i := by
  rcases an_dep hf hn hi i (Nat.le_refl i) with h | h
  · exact h
  · have := h i (Nat.le_refl i)
    omega
theorem depth_spec {N i d : Nat} {post : Int32 → Prop} (hf : ∀ j, 0 < j → j < n → ∃ a : Nat, a < j ∧ former j = nI a) (hn : n ≤ 8000) (hnN : n ≤ N) (hN : N ≤ 8000) (hi : i < n) (hd : d ≤ i) (h0 : an former d i = 0) (hm : ∀ m, m < d → 0 < an former m i ∧ an former m i + m ≤ i) (k : post (nI d)) : w_X4_depthOf N (nI n) former (nI i) post := by
  refine pk_loop (fun f m (_ : Unit) => w_X4_depthOf_L4 N (nI n) former post (fun v8 _ => post v8) f (nI m) (nI (an former m i))) (fun m _ => True) d 0 () (by omega) trivial ?_ ?_
  · intro f _ _
    rw [h0]
    exact tt (by decide) k
  · intro f m _ hmd _ ih
    obtain ⟨p1, p2⟩ := hm m hmd
    obtain ⟨s1, s2⟩ := an_step hf hn p1 (by omega)
    refine ff (nI_nle p1 (by omega)) (ff (nI_ge (by omega) (by omega)) (nm ⟨vp_in_nI (by omega) (by omega), nm ?_⟩))
    rw [nI_1, nI_cl (n := an former m i) (by omega), s2]
    exact ih () trivial
theorem retrace_spec {N i d : Nat} {ws : Int32} {by_ way : Nat → Int32} {post : Int32 → (Nat → Int32) → Prop} (hf : ∀ j, 0 < j → j < n → ∃ a : Nat, a < j ∧ former j = nI a) (hn : n ≤ 8000) (hnN : n ≤ N) (hN : N ≤ 8000) (hi : i < n) (hd : d ≤ i) (h0 : an former d i = 0) (hm : ∀ m, m < d → 0 < an former m i ∧ an former m i + m ≤ i) (k : ∀ way', (∀ j, j < d → way' j = by_ (an former (d - 1 - j) i)) → post (nI d) way') : w_X4_retrace N (nI n) ws by_ former way (nI i) post := by
  refine depth_spec hf hn hnN hN hi hd h0 hm (nm ?_)
  rw [Int32.sub_eq_add_neg]
  refine pk_loop (fun f m (w : Nat → Int32) => w_X4_retrace_L19 N (nI n) (nI d) by_ former post (fun _ _ s10 => post (nI d) s10) f (nI (an former m i)) (nI (d - m) + (-1)) w) (fun m w => ∀ j, d - m ≤ j → j < d → w j = by_ (an former (d - 1 - j) i)) d 0 way (by omega) (fun j a b => absurd a (by omega)) ?_ ?_
  · intro f w hw
    rw [Nat.sub_self]
    exact tt (by decide) (k w (fun j hj => hw j (by omega) hj))
  · intro f m w hmd hw ih
    obtain ⟨p1, p2⟩ := hm m hmd
    obtain ⟨s1, s2⟩ := an_step hf hn p1 (by omega)
    rw [sb_m1 (show 0 < d - m by omega)]
    have hin : vp_in (nI (an former m i)) N := vp_in_nI (by omega) (by omega)
    refine ff (nI_pos (by omega)) ⟨hin, vp_in_nI (by omega) (by omega), hin, nm (nm ?_)⟩
    rw [nI_cl (n := an former m i) (by omega), nI_cl (n := d - m - 1) (by omega), s2, show d - m - 1 = d - (m + 1) by omega]
    refine ih _ (fun j h1 h2 => ?_)
    by_cases e : j = d - (m + 1)
    · rw [e, pk_us]
      congr 2; omega
    · rw [pk_un e]; exact hw j (by omega) h2
theorem wayC_spec {i d : Nat} {v1 fs hfl ws : Int32} {by_ way : Nat → Int32} {post : Int32 → Int32 → (Nat → Int32) → Prop} {K : Int32 → Int32 → Prop} (hf : ∀ j, 0 < j → j < n → ∃ a : Nat, a < j ∧ former j = nI a) (hn : n ≤ 8000) (hi : i < n) (hd : d ≤ i) (h0 : an former d i = 0) (hm : ∀ m, m < d → 0 < an former m i ∧ an former m i + m ≤ i) (k : K (nI d) 0) : ∃ f : Nat, w_X10_way_L17 v1 fs hfl ws by_ former way post K f 0 (nI i) := by
  refine pk_loop (fun f m (_ : Unit) => w_X10_way_L17 v1 fs hfl ws by_ former way post K f (nI m) (nI (an former m i))) (fun m _ => True) d 0 () (by omega) trivial ?_ ?_
  · intro f _ _
    rw [h0]
    exact tt rfl k
  · intro f m _ hmd _ ih
    obtain ⟨p1, p2⟩ := hm m hmd
    obtain ⟨s1, s2⟩ := an_step hf hn p1 (by omega)
    refine ff (nI_ne0 p1 (by omega)) (nm ⟨vp_in_nI (by omega) (by omega), nm ?_⟩)
    rw [nI_1, nI_cl (n := an former m i) (by omega), s2]
    exact ih () trivial
theorem wayM_spec {i d : Nat} {fs hfl ws : Int32} {by_ way : Nat → Int32} {post : Int32 → Int32 → (Nat → Int32) → Prop} {K : Int32 → Int32 → (Nat → Int32) → Prop} (hf : ∀ j, 0 < j → j < n → ∃ a : Nat, a < j ∧ former j = nI a) (hn : n ≤ 8000) (hi : i < n) (hd : d ≤ i) (h0 : an former d i = 0) (hm : ∀ m, m < d → 0 < an former m i ∧ an former m i + m ≤ i) (k : ∀ x y way', (∀ j, j < d → way' j = by_ (an former (d - 1 - j) i)) → K x y way') : ∃ f : Nat, w_X10_way_L45 fs hfl ws by_ former post K f (nI d) (nI i) way := by
  refine pk_loop (fun f m (w : Nat → Int32) => w_X10_way_L45 fs hfl ws by_ former post K f (nI (d - m)) (nI (an former m i)) w) (fun m w => ∀ j, d - m ≤ j → j < d → w j = by_ (an former (d - 1 - j) i)) d 0 way (by omega) (fun j a b => absurd a (by omega)) ?_ ?_
  · intro f w hw
    rw [h0]
    exact tt rfl (k _ _ w (fun j hj => hw j (by omega) hj))
  · intro f m w hmd hw ih
    obtain ⟨p1, p2⟩ := hm m hmd
    obtain ⟨s1, s2⟩ := an_step hf hn p1 (by omega)
    have hin : vp_in (nI (an former m i)) 8000 := vp_in_nI (by omega) (by omega)
    refine ff (nI_ne0 p1 (by omega)) (nm ?_)
    rw [sb_m1 (show 0 < d - m by omega)]
    refine ⟨hin, vp_in_nI (by omega) (by omega), hin, nm ?_⟩
    rw [nI_cl (n := an former m i) (by omega), nI_cl (n := d - m - 1) (by omega), s2, show d - m - 1 = d - (m + 1) by omega]
    refine ih _ (fun j h1 h2 => ?_)
    by_cases e : j = d - (m + 1)
    · rw [e, pk_us]
      congr 2; omega
    · rw [pk_un e]; exact hw j (by omega) h2
end CH
theorem an_congr {n : Nat} {f g : Nat → Int32} (hf : ∀ j, 0 < j → j < n → ∃ a : Nat, a < j ∧ f j = nI a ∧ g j = nI a) (hn : n ≤ 8000) (h0 : f 0 = NONE ∧ g 0 = NONE) {i : Nat} (hi : i < n) : ∀ k, an f k i = an g k i ∧ an f k i ≤ i
  | 0 => ⟨rfl, Nat.le_refl i⟩
  | k + 1 => by
    obtain ⟨ih, ib⟩ := an_congr hf hn h0 hi k
    show (f (an f k i)).toNatClampNeg = (g (an g k i)).toNatClampNeg ∧ (f (an f k i)).toNatClampNeg ≤ i
    rw [← ih]
    rcases Nat.eq_zero_or_pos (an f k i) with e | e
    · rw [e, h0.1, h0.2, NONE_cl]; exact ⟨rfl, Nat.zero_le i⟩
    · obtain ⟨a, h1, h2, h3⟩ := hf _ e (by omega)
      rw [h2, h3, nI_cl (by omega)]
      exact ⟨rfl, by omega⟩
theorem p_29 : St_29 Inw := by
  intro XI XA XL MI MA ML hI a1
  obtain ⟨P, S, hq, hN, hW, hPa, hH, hg, hF, hT, hb1, hb2, hs⟩ := id hI
  have hno : Inw (va_up XI 8 (XI 8)) (va_up XA 8 (XA 8)) XL (va_up MI 6 (MI 6)) (va_up MA 32 (MA 32)) ML := by simp only [up_same]; exact hI
  unfold ls_29 w_X9_way w_X10_way
  rcases id hF with ⟨f1, f2, f3⟩ | ⟨f1, f2, n, f3, f4, f5, f6, f7⟩
  · rw [f1, f2, f3]
    exact ref1_unmade (ff (by decide) (askF_unmade (ff (by decide) ⟨rfl, hno⟩)))
  · have hn := f7.1
    rw [f1, f2, f3, f4]
    rcases ix3 a1 n (by omega) with g | ⟨k, hk, rfl, g1, g2⟩
    · exact ref1_no g (ff (by decide) (askF_no (by omega) g (ff (by decide) ⟨rfl, hno⟩)))
    · obtain ⟨r1, r2, r3, r4, r5, -⟩ := f7
      have hf : ∀ j, 0 < j → j < n → ∃ a : Nat, a < j ∧ XA 28 j = nI a := fun j h0 hj => by
        obtain ⟨a, s, h1, h2, h3, -⟩ := r5 j h0 hj
        exact ⟨a, h1, h3⟩
      have hf2 : ∀ j, 0 < j → j < n → ∃ a : Nat, a < j ∧ MA 8 j = nI a := fun j h0 hj => by
        obtain ⟨a, s, h1, h2, h3, h4, -⟩ := r5 j h0 hj
        exact ⟨a, h1, h4⟩
      have hc : ∀ m, an (XA 28) m k = an (MA 8) m k ∧ an (XA 28) m k ≤ k := an_congr (n := n) (fun j h0 hj => by
        obtain ⟨a, s, h1, h2, h3, h4, -⟩ := r5 j h0 hj
        exact ⟨a, h1, h3, h4⟩) (by omega) ⟨r4.1, r4.2.2.1⟩ hk
      obtain ⟨d, d1, d2, d3⟩ := an_depth hf (by omega) hk
      have d2' : an (MA 8) d k = 0 := by rw [← (hc d).1]; exact d2
      have d3' : ∀ m, m < d → 0 < an (MA 8) m k ∧ an (MA 8) m k + m ≤ k := fun m hm => by rw [← (hc m).1]; exact d3 m hm
      refine ref1_yes g1 g2 (tt rfl (retrace_spec hf (by omega) (by omega) (Nat.le_refl _) hk d1 d2 d3 (fun way' hw => ?_)))
      refine askF_yes (by omega) hk (tt (by decide) (wayC_spec hf2 (by omega) hk d1 d2' d3' (wayM_spec hf2 (by omega) hk d1 d2' d3' (fun x y way2 hw2 => ⟨rfl, ?_⟩))))
      obtain ⟨R, n0, hR, hn0, t1, t2, w1, w2, hrow, hway⟩ := hH
      refine ⟨P, S, hq, hN, hW, hPa, ⟨R, d, hR, by omega, t1, t2, rfl, rfl, hrow, fun j hj => ?_⟩, hg, hF, hT, hb1, hb2, hs⟩
      show way' j = way2 j ∧ ∃ s : Nat, s < S ∧ way' j = nI s
      obtain ⟨p1, p2⟩ := d3 (d - 1 - j) (by omega)
      obtain ⟨a, s, h1, h2, h3, h4, h5, h6⟩ := r5 _ p1 (by omega)
      rw [hw j hj, hw2 j hj, ← (hc _).1, h5, h6]
      exact ⟨rfl, s, h2, rfl⟩
/-! ===== find ===== -/
theorem tryRow_spec {R P : Nat} {row f : Nat → Int32} {post : (Nat → Int32) → Prop} (hR : R ≤ 16) (hP : P ≤ 16) (k : ∀ g, (∀ p, p < P → g p = tl R row p) → post g) : w_X9_tryTheRow (nI R) (nI P) row f post := by
  refine pk_loop (fun n i (g : Nat → Int32) => w_X9_tryTheRow_L2 (nI R) (nI P) row post (fun _ s7 => post s7) n (nI i) g) (fun i g => ∀ p, p < i → g p = tl R row p) P 0 f (by omega) (fun p hp => absurd hp (by omega)) ?_ ?_
  · intro n g hg
    exact tt (nI_le (Nat.le_refl P) (by omega)) (k g hg)
  · intro n i g hi hg ih
    refine ff (nI_ge hi (by omega)) (numberFor_spec hR (by omega) ⟨vp_in_nI (by omega) (by omega), nm ?_⟩)
    rw [nI_1, nI_cl (n := i) (by omega)]
    refine ih _ (fun p hp => ?_)
    by_cases e : p = i
    · rw [e, pk_us]
    · rw [pk_un e]; exact hg p (by omega)
theorem findC {R P : Nat} {fs hf : Int32} {field order row f : Nat → Int32} {post : Int32 → (Nat → Int32) → Prop} {K : Int32 → (Nat → Int32) → Prop} (hR : R ≤ 16) (hP : P ≤ 16) (k : ∀ z g, (∀ p, p < P → g p = tl R row p) → K z g) : ∃ n : Nat, w_X10_find_L12 fs hf (nI P) (nI R) field order row post K n 0 f := by
  refine pk_loop (fun n i (g : Nat → Int32) => w_X10_find_L12 fs hf (nI P) (nI R) field order row post K n (nI i) g) (fun i g => ∀ p, p < i → g p = tl R row p) P 0 f (by omega) (fun p hp => absurd hp (by omega)) ?_ ?_
  · intro n g hg
    exact tt (nI_le (Nat.le_refl P) (by omega)) (k _ g hg)
  · intro n i g hi hg ih
    refine ff (nI_ge hi (by omega)) (told_spec hR (by omega) ⟨vp_in_nI (by omega) (by omega), nm ?_⟩)
    rw [nI_1, nI_cl (n := i) (by omega)]
    refine ih _ (fun p hp => ?_)
    by_cases e : p = i
    · rw [e, pk_us]
    · rw [pk_un e]; exact hg p (by omega)
theorem p_30 : St_30 Inw := by
  intro XI XA XL MI MA ML hI
  obtain ⟨P, S, hq, hN, hW, hPa, hH, hg, hF, hT, hb1, hb2, hs⟩ := id hI
  obtain ⟨R, n0, hR, hn0, t1, t2, w1, w2, hrow, hway⟩ := id hH
  have hP16 : P ≤ 16 := hN.1.1
  have hI' : ∀ y2 y4, Inw XI (va_up XA 39 y2) XL MI (va_up MA 6 y4) ML := fun y2 y4 => ⟨P, S, hq, hN, hW, hPa, hH, hg, hF, hT, hb1, hb2, hs⟩
  unfold ls_30 w_X9_find w_X10_find
  rcases id hF with ⟨f1, f2, f3⟩ | ⟨f1, f2, n, f3, f4, f5, f6, f7⟩
  · rw [f1, f2]
    exact nt rfl (nt rfl ⟨rfl, hI' _ _⟩)
  · have hn := f7.1
    rw [f1, f2, f3, f4, f5, hq.1, hq.2.1, t1, t2]
    obtain ⟨r1, r2, r3, r4, r5, r6, r7, r8, r9⟩ := f7
    refine nf (by decide) (tryRow_spec hR hP16 (fun g hg' => ?_))
    have et : ∀ p, tl R (XA 7) p = tl R (MA 26) p := tl_congr hR hrow
    refine indexOf_spec hP16 (Nat.le_refl _) (by omega) r7 (fun i hi hsm => tt (nI_pos' (by omega)) ?_) (fun hno => ff (by decide) ?_)
    · refine nf (by decide) (findC hR hP16 (fun z g2 hg2 => ?_))
      refine numberOf_spec hP16 (by omega) r8 (fun j hj q => ⟨?_, hI' _ _⟩) (fun q => absurd (fun p hp => ?_) (q i hi))
      · have e : i = j := r6 i j hi hj (fun p hp => by
          rw [hsm p hp, hg' p hp, et p, ← hg2 p hp, ← q p hp, r2 j p hj hp]; rfl)
        rw [e]
      · show MA 7 (16 * i + p) = g2 p
        rw [← r2 i p hi hp, hsm p hp, hg' p hp, et p, hg2 p hp]
    · refine nf (by decide) (findC hR hP16 (fun z g2 hg2 => ?_))
      refine numberOf_spec hP16 (by omega) r8 (fun j hj q => absurd (fun p hp => ?_) (hno j hj)) (fun _ => ⟨rfl, hI' _ _⟩)
      rw [r2 j p hj hp, hg' p hp, et p, ← hg2 p hp]; exact q p hp
