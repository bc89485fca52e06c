/-! ===== cover, bound, pump ===== -/
theorem below_spec {N P a : Nat} {cells h : Nat → Int32} {post : Int32 → Prop} (hP : P ≤ 16) (hN : N ≤ 8000) (ha : a < N) (h1 : (∀ p, p < P → h p ≤ cells (a * P + p)) → post 1) (h0 : (¬ ∀ p, p < P → h p ≤ cells (a * P + p)) → post 0) : w_X4_isNowhereBelow N (nI P) cells h (nI a) post := by
  refine pk_loop (fun f k (_ : Unit) => w_X4_isNowhereBelow_L2 N (nI a) (nI P) cells h post (fun _ => post 1) f (nI k)) (fun k _ => ∀ q, q < k → h q ≤ cells (a * P + q)) P 0 () (by omega) (fun q hq => absurd hq (by omega)) ?_ ?_
  · intro f _ hg
    exact tt (nI_le (Nat.le_refl P) (by omega)) (h1 hg)
  · intro f k _ hk hg ih
    obtain ⟨b1, b2⟩ := row_in ha hk hP hN
    refine ff (nI_ge hk (by omega)) ?_
    unfold w_X4_cellAt
    rw [ixB]
    refine ⟨vp_in_nI b1 b2, vp_in_nI (by omega) (by omega), ?_⟩
    rw [nI_cl (n := a * P + k) (by omega), nI_cl (n := k) (by omega)]
    by_cases c : h k ≤ cells (a * P + k)
    · refine tt c (nm ?_)
      rw [nI_1]
      refine ih () (fun q hq => ?_)
      by_cases e : q = k
      · rw [e]; exact c
      · exact hg q (by omega)
    · exact ff c (h0 (fun w => c (w k hk)))
def NCV (P : Nat) (cells h : Nat → Int32) (a : Nat) : Prop := ¬ ∀ p, p < P → h p ≤ cells (a * P + p)
theorem le_end (x : Int32) : x ≤ 2147483647 := by
  rw [Int32.le_iff_toInt_le]
  have h1 : (2147483647 : Int32).toInt = 2147483647 := by decide
  have := Int32.toInt_lt x
  omega
theorem p_39 : St_39 Inw := by
  intro XI XA XL MI MA ML hI
  obtain ⟨P, S, hq, hN, hW, hPa, hH, hg, hF, hT, hb1, hb2, hs⟩ := id hI
  obtain ⟨R, n0, hR, hn0, t1, t2, w1, w2, hrow, hway⟩ := id hH
  have hP16 : P ≤ 16 := hN.1.1
  have hI' : ∀ y2, Inw XI (va_up XA 39 y2) XL MI MA ML := fun y2 => ⟨P, S, hq, hN, hW, hPa, hH, hg, hF, hT, hb1, hb2, hs⟩
  unfold ls_39 w_X9_cover w_X10_cover
  rcases id hT with ⟨f1, f2, f3⟩ | ⟨f1, f2, n, f3, f4, f5, f7⟩
  · rw [f1, f2]
    exact nt rfl (nt rfl ⟨rfl, hI' _⟩)
  · have hn := f7.1
    rw [f1, f2, f3, f4, f5, hq.1, hq.2.1, t1, t2]
    refine nf (by decide) (tryRow_spec hR hP16 (fun g hg' => ?_))
    have et : ∀ p, tl R (XA 7) p = tl R (MA 26) p := tl_congr hR hrow
    have hM : ∀ r, LO n (NCV P (XA 3) g) r → ¬ (1 : Int32) = 0 → ∃ f : Nat, w_X10_cover_L12 1 (nI P) (nI R) (nI n) (MA 18) (MA 26) (fun r3 => r = r3 ∧ Inw XI (va_up XA 39 g) XL MI MA ML) (fun _ => r = (-2000000005 : Int32) ∧ Inw XI (va_up XA 39 g) XL MI MA ML) f 0 := by
      intro r hr _
      refine pk_loop (fun f i (_ : Unit) => w_X10_cover_L12 1 (nI P) (nI R) (nI n) (MA 18) (MA 26) (fun r3 => r = r3 ∧ Inw XI (va_up XA 39 g) XL MI MA ML) (fun _ => r = (-2000000005 : Int32) ∧ Inw XI (va_up XA 39 g) XL MI MA ML) f (nI i)) (fun i _ => ∀ j, j < i → NCV P (XA 3) g j) n 0 () (by omega) (fun j hj => absurd hj (by omega)) ?_ ?_
      · intro f _ hgg
        exact tt (nI_le (Nat.le_refl n) (by omega)) ⟨LO_uniq hr (Or.inr ⟨hgg, rfl⟩), hI' _⟩
      · intro f i _ hi hgg ih
        refine ff (nI_ge hi (by omega)) ?_
        refine pk_loop (fun f k (v : Int32) => w_X10_cover_L24 (nI i) 1 (nI P) (nI R) (nI n) (MA 18) (MA 26) (fun r3 => r = r3 ∧ Inw XI (va_up XA 39 g) XL MI MA ML) _ f v (nI k)) (fun k v => fl (fun p => g p ≤ XA 3 (i * P + p)) k v) P 0 1 (by omega) (fl_0 _) ?_ ?_
        · intro f v hv
          refine tt (nI_le (Nat.le_refl P) (by omega)) ?_
          rcases hv with ⟨rfl, q⟩ | ⟨rfl, s, hs', q⟩
          · exact z1 ⟨LO_uniq hr (Or.inl ⟨i, hi, fun w => w q, hgg, rfl⟩), hI' _⟩
          · refine z0 (nm ?_)
            rw [nI_1]
            refine ih () (fun j hj => ?_)
            by_cases e : j = i
            · rw [e]; exact fun w => q (w s hs')
            · exact hgg j (by omega)
        · intro f k v hk hv ih2
          refine ff (nI_ge hk (by omega)) ⟨fun c => nm ?_, fun c => ?_⟩
          · rw [nI_1 k]; exact ih2 _ (fl_keep hv c)
          · rw [ixA, nI_cl (n := 16 * i + k) (by omega)]
            have hin : vp_in (nI (16 * i + k)) 32000 := vp_in_nI (by omega) (by omega)
            refine ⟨hin, ?_⟩
            rcases f7.2.1 i k hi hk with ⟨e1, e2⟩ | ⟨u, hu, e1, e2⟩
            · rw [e2]
              refine tt (by decide) (nm ?_)
              rw [nI_1 k]; exact ih2 _ (fl_yes hv c (by rw [e1]; exact le_end _))
            · rw [e2]
              refine ff (nI_pos (by omega)) ⟨hin, told_spec hR (by omega) ?_⟩
              have eg : g k = tl R (MA 26) k := (hg' k hk).trans (et k)
              by_cases d : nI u < tl R (MA 26) k
              · refine tt d (nm ?_)
                rw [nI_1 k]; exact ih2 _ (fl_no (fun w => by rw [eg, e1] at w; exact le_nlt w d))
              · refine ff d (nm ?_)
                rw [nI_1 k]; exact ih2 _ (fl_yes hv c (by rw [eg, e1]; exact nlt_le' d))
    refine pk_loop (fun f i (_ : Unit) => w_X9_cover_L19 2000 1 (nI n) (nI P) (nI R) (nI P) (XA 3) (XA 7) g _ _ f (nI i)) (fun i _ => ∀ j, j < i → NCV P (XA 3) g j) n 0 () (by omega) (fun j hj => absurd hj (by omega)) ?_ ?_
    · intro f _ hgg
      exact tt (nI_le (Nat.le_refl n) (by omega)) (nf (by decide) (hM _ (Or.inr ⟨hgg, rfl⟩) (by decide)))
    · intro f i _ hi hgg ih
      refine ff (nI_ge hi (by omega)) (below_spec hP16 (by omega) (by omega) (fun d => z1 ?_) (fun d => z0 (nm ?_)))
      · exact nf (by decide) (hM _ (Or.inl ⟨i, hi, fun w => w d, hgg, rfl⟩) (by decide))
      · rw [nI_1]
        refine ih () (fun j hj => ?_)
        by_cases e : j = i
        · rw [e]; exact d
        · exact hgg j (by omega)
def mx (P : Nat) (cells : Nat → Int32) (a : Nat) : Nat → Int32
  | 0 => 0
  | i + 1 => if mx P cells a i < cells (i * P + a) then cells (i * P + a) else mx P cells a i
theorem p_40 : St_40 Inw := by
  intro XI XA XL MI MA ML hI a1
  obtain ⟨P, S, hq, hN, hW, hPa, hH, hg, hF, hT, hb1, hb2, hs⟩ := id hI
  have hP16 : P ≤ 16 := hN.1.1
  unfold ls_40 w_X9_bound w_X10_bound
  rw [hq.1, hq.2.1]
  rcases ix3 a1 P (by omega) with h | ⟨p, hp, rfl, h1, h2⟩
  · exact hasPlace_no h (y0 (isPlace_no h (y0 ⟨rfl, hI⟩)))
  · refine hasPlace_yes h1 h2 (y1 ?_)
    rcases hT with ⟨f1, f2, f3⟩ | ⟨f1, f2, n, f3, f4, f5, f7⟩
    · rw [f1, f2]
      exact tt rfl (isPlace_yes h1 h2 (y1 (nt rfl ⟨rfl, hI⟩)))
    · have hn := f7.1
      rw [f1, f2, f3, f4, f5]
      refine ff (by decide) ?_
      refine pk_loop (fun f i (v : Int32) => w_X4_mostAt_L4 2000 (nI p) (nI n) (nI P) (XA 3) _ _ f v (nI i)) (fun i v => v = mx P (XA 3) p i) n 0 0 (by omega) rfl ?_ ?_
      · intro f v hv
        rw [hv]
        refine tt (nI_le (Nat.le_refl n) (by omega)) ?_
        have hM : ∀ r, (∀ v, EV (mx P (XA 3) p n) v → w_X10_shown v (fun r17 => r = r17 ∧ Inw XI XA XL MI MA ML)) → w_X10_isPlace (nI P) (nI p) (fun r1 => (¬ r1 = 0 → (¬ (1 : Int32) = 0 → ∃ f : Nat, w_X10_bound_L25 (nI p) 1 (nI P) (nI n) (MA 18) (fun r2 => r = r2 ∧ Inw XI XA XL MI MA ML) (fun v15 _ => w_X10_shown v15 (fun r17 => r = r17 ∧ Inw XI XA XL MI MA ML)) f 0 0) ∧ ((1 : Int32) = 0 → r = (-2000000002 : Int32) ∧ Inw XI XA XL MI MA ML)) ∧ (r1 = 0 → r = (-2000000001 : Int32) ∧ Inw XI XA XL MI MA ML)) := by
          intro r hr
          refine isPlace_yes h1 h2 (y1 (nf (by decide) ?_))
          refine pk_loop (fun f i (v : Int32) => w_X10_bound_L25 (nI p) 1 (nI P) (nI n) (MA 18) (fun r2 => r = r2 ∧ Inw XI XA XL MI MA ML) (fun v15 _ => w_X10_shown v15 (fun r17 => r = r17 ∧ Inw XI XA XL MI MA ML)) f v (nI i)) (fun i v => EV (mx P (XA 3) p i) v) n 0 0 (by omega) (Or.inr ⟨0, by omega, rfl, rfl⟩) ?_ ?_
          · intro f v hv
            exact tt (nI_le (Nat.le_refl n) (by omega)) (hr v hv)
          · intro f i v hi hv ih
            refine ff (nI_ge hi (by omega)) ?_
            rw [ixA]
            refine ⟨vp_in_nI (by omega) (by omega), nm ?_⟩
            rw [nI_cl (n := 16 * i + p) (by omega)]
            refine more_spec (f7.2.1 i p hi hp) hv (fun d => z1 (nm ?_)) (fun d => z0 (nm ?_))
            · rw [nI_1]; refine ih _ ?_
              show EV (if _ then _ else _) _
              rw [if_pos d]; exact f7.2.1 i p hi hp
            · rw [nI_1]; refine ih _ ?_
              show EV (if _ then _ else _) _
              rw [if_neg d]; exact hv
        unfold w_X9_asTold
        by_cases c : mx P (XA 3) p n = 2147483647
        · refine nt c (hM _ (fun v hv => ?_))
          rcases hv with ⟨-, e⟩ | ⟨u, hu, e, -⟩
          · rw [e]; exact ff (by decide) ⟨rfl, hI⟩
          · rw [c] at e; exact absurd e.symm (end_ne (by omega))
        · refine nf c (hM _ (fun v hv => ?_))
          rcases hv with ⟨e, -⟩ | ⟨u, hu, e, e2⟩
          · exact absurd e c
          · rw [e2]; exact tt (nI_pos' (by omega)) ⟨e, hI⟩
      · intro f i v hi hv ih
        rw [hv]
        refine ff (nI_ge hi (by omega)) ?_
        unfold w_X4_cellAt
        rw [ixB]
        obtain ⟨b1, b2⟩ := row_in (N := 2000) (show i < 2000 by omega) hp hP16 (by omega)
        refine ⟨vp_in_nI b1 b2, nm (nm ?_)⟩
        rw [nI_1, nI_cl (n := i * P + p) (by omega)]
        exact ih _ rfl
section CH2
variable {n : Nat} {former : Nat → Int32}
theorem depthM_spec {i d : Nat} {post : Int32 → Prop} (hf : ∀ j, 0 < j → j < n → ∃ a : Nat, a < j ∧ former j = nI a) (hr : former 0 = NONE) (hn : n ≤ 2000) (hi : i < n) (hd : d ≤ i) (h0 : an former d i = 0) (hm : ∀ m, m < d → 0 < an former m i ∧ an former m i + m ≤ i) (k : post (nI d)) : w_X10_depthOf former (nI i) post := by
  refine pk_loop (fun f m (_ : Unit) => w_X10_depthOf_L4 former post (fun v8 _ => post v8) f (nI m) (nI (an former m i))) (fun m _ => True) d 0 () (by omega) trivial ?_ ?_
  · intro f _ _
    rw [h0]
    refine ⟨vp_in_nI (by omega) (by omega), ?_⟩
    rw [nI_cl (n := 0) (by omega)]
    exact tt hr k
  · intro f m _ hmd _ ih
    obtain ⟨p1, p2⟩ := hm m hmd
    obtain ⟨s1, s2⟩ := an_step hf (by omega) p1 (by omega)
    have hin : vp_in (nI (an former m i)) 2000 := vp_in_nI (by omega) (by omega)
    refine ⟨hin, ?_⟩
    rw [nI_cl (n := an former m i) (by omega), s2]
    refine ff (nI_none (by omega)) (nm ⟨hin, nm ?_⟩)
    rw [nI_1]
    exact ih () trivial
theorem wayP_spec {i d : Nat} {x1 x2 x3 x4 x5 : Int32} {c1 c2 c3 c4 by_ way : Nat → Int32} {post : Int32 → Int32 → (Nat → Int32) → (Nat → Int32) → Prop} {K : Int32 → Int32 → (Nat → Int32) → Prop} (hf : ∀ j, 0 < j → j < n → ∃ a : Nat, a < j ∧ former j = nI a) (hr : former 0 = NONE) (hn : n ≤ 2000) (hi : i < n) (hd : d ≤ i) (h0 : an former d i = 0) (hm : ∀ m, m < d → 0 < an former m i ∧ an former m i + m ≤ i) (k : ∀ x y way', (∀ j, j < d → way' j = by_ (an former (d - 1 - j) i)) → K x y way') : ∃ f : Nat, w_X10_pump_L37 x1 x2 x3 x4 x5 former c1 c2 c3 by_ c4 post K f (nI d) (nI i) way := by
  refine pk_loop (fun f m (w : Nat → Int32) => w_X10_pump_L37 x1 x2 x3 x4 x5 former c1 c2 c3 by_ c4 post K f (nI (d - m)) (nI (an former m i)) w) (fun m w => ∀ j, d - m ≤ j → j < d → w j = by_ (an former (d - 1 - j) i)) d 0 way (by omega) (fun j a b => absurd a (by omega)) ?_ ?_
  · intro f w hw
    rw [h0]
    refine ⟨vp_in_nI (by omega) (by omega), ?_⟩
    rw [nI_cl (n := 0) (by omega)]
    exact tt hr (k _ _ w (fun j hj => hw j (by omega) hj))
  · intro f m w hmd hw ih
    obtain ⟨p1, p2⟩ := hm m hmd
    obtain ⟨s1, s2⟩ := an_step hf (by omega) p1 (by omega)
    have hin : vp_in (nI (an former m i)) 2000 := vp_in_nI (by omega) (by omega)
    refine ⟨hin, ?_⟩
    rw [nI_cl (n := an former m i) (by omega), s2]
    refine ff (nI_none (by omega)) (nm ?_)
    rw [sb_m1 (show 0 < d - m by omega)]
    refine ⟨hin, vp_in_nI (by omega) (by omega), hin, nm ?_⟩
    rw [nI_cl (n := d - m - 1) (by omega), show d - m - 1 = d - (m + 1) by omega]
    refine ih _ (fun j h1 h2 => ?_)
    by_cases e : j = d - (m + 1)
    · rw [e, pk_us]
      congr 2; omega
    · rw [pk_un e]; exact hw j (by omega) h2
end CH2
theorem comeTo_spec {P i j s : Nat} {above come nodes pt st tk : Nat → Int32} {post : (Nat → Int32) → Prop} (hP : P ≤ 16) (hi : i < 2000) (hj : j < 2000) (hs : s < 16) (ej : above i = nI j) (es : st i = nI s) (k : ∀ c, (∀ p, p < P → c p = nodes (16 * j + p) + (pt (16 * s + p) - tk (16 * s + p))) → post c) : w_X10_comeTo (nI P) above come nodes pt st tk (nI i) post := by
  refine pk_loop (fun f k (c : Nat → Int32) => w_X10_comeTo_L2 (nI i) (nI P) above nodes pt st tk post (fun _ s7 => post s7) f (nI k) c) (fun k c => ∀ p, p < k → c p = nodes (16 * j + p) + (pt (16 * s + p) - tk (16 * s + p))) P 0 come (by omega) (fun p hp => absurd hp (by omega)) ?_ ?_
  · intro f c hc
    exact tt (nI_le (Nat.le_refl P) (by omega)) (k c hc)
  · intro f p c hp hc ih
    have hin : vp_in (nI i) 2000 := vp_in_nI hi (by omega)
    have hx : vp_in (nI (16 * s + p)) 256 := vp_in_nI (by omega) (by omega)
    refine ff (nI_ge hp (by omega)) ⟨hin, nm ⟨hin, ?_⟩⟩
    rw [nI_cl (n := i) (by omega), ej, es, ixA, ixA]
    refine ⟨vp_in_nI (by omega) (by omega), hx, hx, vp_in_nI (by omega) (by omega), nm ?_⟩
    rw [nI_1, nI_cl (n := p) (by omega), nI_cl (n := 16 * j + p) (by omega), nI_cl (n := 16 * s + p) (by omega), i_as]
    refine ih _ (fun q hq => ?_)
    by_cases e : q = p
    · rw [e, pk_us]
    · rw [pk_un e]; exact hc q (by omega)
theorem isLess_spec {P a : Nat} {come nodes : Nat → Int32} {post : Int32 → Prop} (hP : P ≤ 16) (ha : a < 2000) (h1 : (∀ p, p < P → ¬ come p < nodes (16 * a + p)) → (∃ p, p < P ∧ ¬ come p ≤ nodes (16 * a + p)) → post 1) (h0 : ¬ ((∀ p, p < P → ¬ come p < nodes (16 * a + p)) ∧ ∃ p, p < P ∧ ¬ come p ≤ nodes (16 * a + p)) → post 0) : w_X10_isLess (nI P) come nodes (nI a) post := by
  refine pk_loop (σ := Int32 × Int32) (fun f k v => w_X10_isLess_L7 (nI a) (nI P) come nodes post (fun v29 v30 _ => (v29 = 0 → post 0) ∧ (¬ v29 = 0 → (v30 = 0 → post 0) ∧ (¬ v30 = 0 → post 1))) f v.1 v.2 (nI k)) (fun k v => fl (fun p => ¬ come p < nodes (16 * a + p)) k v.1 ∧ ((v.2 = 1 ∧ ∃ p, p < k ∧ ¬ come p ≤ nodes (16 * a + p)) ∨ (v.2 = 0 ∧ ¬ ∃ p, p < k ∧ ¬ come p ≤ nodes (16 * a + p)))) P 0 (1, 0) (by omega) ⟨fl_0 _, Or.inr ⟨rfl, fun ⟨p, hp, _⟩ => absurd hp (by omega)⟩⟩ ?_ ?_
  · intro f v hv
    refine tt (nI_le (Nat.le_refl P) (by omega)) ?_
    obtain ⟨g1, g2⟩ := hv
    rcases g1 with ⟨e, q⟩ | ⟨e, s, hs, q⟩
    · rw [e]
      refine z1 ?_
      rcases g2 with ⟨e, w⟩ | ⟨e, w⟩
      · rw [e]; exact z1 (h1 q w)
      · rw [e]; exact z0 (h0 (fun r => w r.2))
    · rw [e]; exact z0 (h0 (fun r => q (r.1 s hs)))
  · intro f k v hk hv ih
    have hin : vp_in (nI (16 * a + k)) 32000 := vp_in_nI (by omega) (by omega)
    have hin2 : vp_in (nI k) 16 := vp_in_nI (by omega) (by omega)
    obtain ⟨g1, g2⟩ := hv
    refine ff (nI_ge hk (by omega)) ?_
    rw [ixA, nI_cl (n := 16 * a + k) (by omega), nI_cl (n := k) (by omega)]
    have more : ∀ x : Int32, fl (fun p => ¬ come p < nodes (16 * a + p)) (k + 1) x → ((¬ v.2 = 0 → ∀ x7 : Int32, x7 = nI k + 1 → w_X10_isLess_L7 (nI a) (nI P) come nodes post (fun v29 v30 _ => (v29 = 0 → post 0) ∧ (¬ v29 = 0 → (v30 = 0 → post 0) ∧ (¬ v30 = 0 → post 1))) f x 1 x7) ∧ (v.2 = 0 → vp_in (nI (16 * a + k)) 32000 ∧ vp_in (nI k) 16 ∧ (come k ≤ nodes (16 * a + k) → ∀ x10 : Int32, x10 = nI k + 1 → w_X10_isLess_L7 (nI a) (nI P) come nodes post (fun v29 v30 _ => (v29 = 0 → post 0) ∧ (¬ v29 = 0 → (v30 = 0 → post 0) ∧ (¬ v30 = 0 → post 1))) f x 0 x10) ∧ (¬ come k ≤ nodes (16 * a + k) → ∀ x11 : Int32, x11 = nI k + 1 → w_X10_isLess_L7 (nI a) (nI P) come nodes post (fun v29 v30 _ => (v29 = 0 → post 0) ∧ (¬ v29 = 0 → (v30 = 0 → post 0) ∧ (¬ v30 = 0 → post 1))) f x 1 x11))) := by
      intro x hx
      rcases g2 with ⟨e, p, hp, w⟩ | ⟨e, w⟩
      · rw [e]
        refine y1 (nm ?_)
        rw [nI_1]; exact ih (x, 1) ⟨hx, Or.inl ⟨rfl, p, by omega, w⟩⟩
      · rw [e]
        refine y0 ⟨hin, hin2, ?_⟩
        by_cases c : come k ≤ nodes (16 * a + k)
        · refine tt c (nm ?_)
          rw [nI_1]; refine ih (x, 0) ⟨hx, Or.inr ⟨rfl, fun ⟨p, hp, q⟩ => ?_⟩⟩
          by_cases e : p = k
          · subst e; exact q c
          · exact w ⟨p, by omega, q⟩
        · refine ff c (nm ?_)
          rw [nI_1]; exact ih (x, 1) ⟨hx, Or.inl ⟨rfl, k, by omega, c⟩⟩
    refine ⟨fun c => more 0 (fl_keep g1 c), fun c => ⟨hin, hin2, ?_⟩⟩
    by_cases d : come k < nodes (16 * a + k)
    · exact tt d (more 0 (fl_no (fun w => w d)))
    · exact ff d (more 1 (fl_yes g1 c d))
theorem endless_spec {P n : Nat} {cells nodes : Nat → Int32} {post : Int32 → Prop} (hP : P ≤ 16) (hn : n ≤ 2000) (hE : ∀ j p, j < n → p < P → EV (cells (j * P + p)) (nodes (16 * j + p))) (h : ∀ r, LO n (fun i => ∀ p, p < P → ¬ cells (i * P + p) = 2147483647) r → post r) : w_X10_leastEndless (nI P) (nI n) nodes post := by
  refine pk_loop (fun f i (_ : Unit) => w_X10_leastEndless_L2 (nI P) (nI n) nodes post (fun _ => post NONE) f (nI i)) (fun i _ => ∀ j, j < i → ∀ p, p < P → ¬ cells (j * P + p) = 2147483647) n 0 () (by omega) (fun j hj => absurd hj (by omega)) ?_ ?_
  · intro f _ hg
    exact tt (nI_le (Nat.le_refl n) (by omega)) (h _ (Or.inr ⟨hg, rfl⟩))
  · intro f i _ hi hg ih
    refine ff (nI_ge hi (by omega)) ?_
    refine pk_loop (fun f k (_ : Unit) => w_X10_leastEndless_L12 (nI i) (nI P) (nI n) nodes post _ f (nI k)) (fun k _ => ∀ p, p < k → ¬ cells (i * P + p) = 2147483647) P 0 () (by omega) (fun j hj => absurd hj (by omega)) ?_ ?_
    · intro f _ hg2
      refine tt (nI_le (Nat.le_refl P) (by omega)) (nm ?_)
      rw [nI_1]
      refine ih () (fun j hj => ?_)
      by_cases e : j = i
      · rw [e]; exact hg2
      · exact hg j (by omega)
    · intro f k _ hk hg2 ih2
      refine ff (nI_ge hk (by omega)) ?_
      rw [ixA, nI_cl (n := 16 * i + k) (by omega)]
      refine ⟨vp_in_nI (by omega) (by omega), ?_⟩
      rcases hE i k hi hk with ⟨e1, e2⟩ | ⟨v, hv, e1, e2⟩
      · rw [e2]
        exact ff (by decide) (h _ (Or.inl ⟨i, hi, fun w => w k hk e1, hg, rfl⟩))
      · rw [e2]
        refine tt (nI_pos' (by omega)) (nm ?_)
        rw [nI_1 k]
        refine ih2 () (fun p hp => ?_)
        by_cases e : p = k
        · rw [e, e1]; exact end_ne (by omega)
        · exact hg2 p (by omega)
theorem p_41 : St_41 Inw := by
  intro XI XA XL MI MA ML hI
  obtain ⟨P, S, hq, hN, hW, hPa, hH, hg, hF, hT, hb1, hb2, hs⟩ := id hI
  obtain ⟨q9, m0, q10, m1, k5, k27, k29, k24, k16, k4, k31, k10⟩ := id hq
  have hP16 : P ≤ 16 := hN.1.1
  have hS16 : S ≤ 16 := hN.1.2
  have hno : Inw (va_up XI 8 (XI 8)) (va_up XA 8 (XA 8)) XL (va_up MI 6 (MI 6)) (va_up (va_up MA 6 (MA 6)) 32 (MA 32)) ML := by simp only [up_same]; exact hI
  unfold ls_41 w_X9_pump w_X10_pump
  rw [m0, k24, k29]
  rcases id hT with ⟨f1, f2, f3⟩ | ⟨f1, f2, n, f3, f4, f5, f7⟩
  · rw [f1, f2]
    exact nt rfl (nt rfl ⟨rfl, hno⟩)
  · rw [f1, f2, f3, f4]
    obtain ⟨r1, r2, r3, r4, r5, r6⟩ := f7
    refine nf (by decide) ?_
    rcases r6 with ⟨e1, e2⟩ | ⟨i, k, z1, z2, z3, z4, z5, z6, z7, z8⟩
    · rw [e1]
      refine ff (by decide) (nf (by decide) (endless_spec hP16 (by omega) r2 (fun r hr => ?_)))
      have : r = NONE := LO_uniq hr (Or.inr ⟨fun i hi p hp => e2 i p hi hp, rfl⟩)
      rw [this]
      exact nt rfl ⟨rfl, hno⟩
    · have hf : ∀ j, 0 < j → j < n → ∃ a : Nat, a < j ∧ XA 4 j = nI a := fun j h0 hj => by
        obtain ⟨a, s, h1, h2, h3, -⟩ := r4 j h0 hj
        exact ⟨a, h1, h3⟩
      have hf2 : ∀ j, 0 < j → j < n → ∃ a : Nat, a < j ∧ MA 0 j = nI a := fun j h0 hj => by
        obtain ⟨a, s, h1, h2, h3, h4, -⟩ := r4 j h0 hj
        exact ⟨a, h1, h4⟩
      have hc2 : ∀ {i}, i < n → ∀ m, an (XA 4) m i = an (MA 0) m i ∧ an (XA 4) m i ≤ i := fun hi => an_congr (n := n) (fun j h0 hj => by
        obtain ⟨a, s, h1, h2, h3, h4, -⟩ := r4 j h0 hj
        exact ⟨a, h1, h3, h4⟩) (by omega) ⟨r3.1, r3.2.2.1⟩ hi
      have hc := hc2 z2
      obtain ⟨d, d1, d2, d3⟩ := an_depth hf (by omega) z2
      have d2' : an (MA 0) d i = 0 := by rw [← (hc d).1]; exact d2
      have d3' : ∀ m, m < d → 0 < an (MA 0) m i ∧ an (MA 0) m i + m ≤ i := fun m hm => by rw [← (hc m).1]; exact d3 m hm
      have an0 : ∀ m, an (XA 4) (d + m) i = 0 := fun m => by
        induction m with
        | zero => exact d2
        | succ m ih =>
          show (XA 4 (an (XA 4) (d + m) i)).toNatClampNeg = 0
          rw [ih, r3.1, NONE_cl]
      have hd0 : 0 < d := by
        rcases Nat.eq_zero_or_pos d with e | e
        · have h2 := d2
          rw [e] at h2
          have : i = 0 := h2
          omega
        · exact e
      have hkd : k + 1 ≤ d := by
        rcases Nat.lt_or_ge d (k + 1) with c | c
        · have h1 := z7 (d - 1) (by omega)
          rw [show d - 1 + 1 = d by omega, d2] at h1
          have h2 := an0 (k + 1 - d)
          rw [show d + (k + 1 - d) = k + 1 by omega] at h2
          rw [h2] at z8
          exact absurd z8 h1
        · exact c
      have hba : an (XA 4) (k + 1) i < n := by have := (hc (k + 1)).2; omega
      obtain ⟨b, b1, b2, b3⟩ := an_depth hf (by omega) hba
      have b2' : an (MA 0) b (an (XA 4) (k + 1) i) = 0 := by rw [← (hc2 hba b).1]; exact b2
      have b3' : ∀ m, m < b → 0 < an (MA 0) m (an (XA 4) (k + 1) i) ∧ an (MA 0) m (an (XA 4) (k + 1) i) + m ≤ an (XA 4) (k + 1) i := fun m hm => by rw [← (hc2 hba m).1]; exact b3 m hm
      rw [z3, z4]
      refine tt (nI_pos' (by omega)) (retrace_spec hf (by omega) (by omega) (by omega) z2 d1 d2 d3 (fun way' hw => depth_spec hf (by omega) (by omega) (by omega) hba b1 b2 b3 ?_))
      refine nf (by decide) (endless_spec hP16 (by omega) r2 (fun r hr => ?_))
      have er : r = nI i := LO_uniq hr (Or.inl ⟨i, z2, fun w => by
        obtain ⟨p, hp, q⟩ := z6
        exact w p hp q, fun j hj p hp => z5 j p hj hp, rfl⟩)
      rw [er]
      refine nf (nI_none (by omega)) (depthM_spec hf2 r3.2.2.1 (by omega) z2 d1 d2' d3' ?_)
      refine wayP_spec hf2 r3.2.2.1 (by omega) z2 d1 d2' d3' (fun x y way2 hw2 => ?_)
      obtain ⟨j, s, j1, j2, j3, j4, j5, j6⟩ := r4 i z1 z2
      have hi1 : an (XA 4) 1 i = j := by
        show (XA 4 i).toNatClampNeg = j
        rw [j3, nI_cl (by omega)]
      refine comeTo_spec (j := j) (s := s) hP16 (by omega) (by omega) (by omega) j4 j6 (fun c hcc => ⟨vp_in_nI (by omega) (by omega), nm ?_⟩)
      rw [nI_cl (n := i) (by omega), j4]
      have nds : ∀ a p, a < i → p < P → XA 3 (a * P + p) = MA 18 (16 * a + p) := fun a p ha hp => by
        rcases r2 a p (by omega) hp with ⟨e1, -⟩ | ⟨v, hv, e1, e2⟩
        · exact absurd e1 (z5 a p ha hp)
        · rw [e1, e2]
      have ecl : (XA 2 i).toNatClampNeg = s := by rw [j5, nI_cl (by omega)]
      have hcome : ∀ p, p < P → c p = XA 3 (an (XA 4) 1 i * P + p) + (XA 14 (16 * (XA 2 i).toNatClampNeg + p) - XA 17 (16 * (XA 2 i).toNatClampNeg + p)) := fun p hp => by
        rw [hi1, ecl, hcc p hp, nds j p j1 hp]
      have less : ∀ a, a < i → ((∀ p, p < P → ¬ c p < MA 18 (16 * a + p)) ∧ (∃ p, p < P ∧ ¬ c p ≤ MA 18 (16 * a + p)) ↔ LSS P (XA 2) (XA 3) (XA 4) (XA 14) (XA 17) i a) := fun a ha => by
        unfold LSS
        constructor
        · rintro ⟨h1, p, hp, h2⟩
          refine ⟨fun p hp => ?_, p, hp, ?_⟩
          · rw [← hcome p hp, nds a p ha hp]; exact nlt_le' (h1 p hp)
          · rw [← hcome p hp, nds a p ha hp]; exact Int32.not_le.mp h2
        · rintro ⟨h1, p, hp, h2⟩
          refine ⟨fun p hp => ?_, p, hp, ?_⟩
          · rw [hcome p hp, ← nds a p ha hp]; exact le_nlt (h1 p hp)
          · rw [hcome p hp, ← nds a p ha hp]; exact Int32.not_le.mpr h2
      have ancl : ∀ m, m < d → an (XA 4) (m + 1) i < i ∧ XA 4 (an (XA 4) m i) = nI (an (XA 4) (m + 1) i) := fun m hm => by
        obtain ⟨p1, p2⟩ := d3 m hm
        obtain ⟨s1, s2⟩ := an_step hf (by omega) p1 (by omega)
        exact ⟨by omega, s2⟩
      have eab : ∀ j, j < n → XA 4 j = MA 0 j := fun j hj => by
        rcases Nat.eq_zero_or_pos j with e | e
        · rw [e, r3.1, r3.2.2.1]
        · obtain ⟨a, s, h1, h2, h3, h4, -⟩ := r4 j e hj
          rw [h3, h4]
      rw [← hi1]
      refine pk_loop (fun f m (_ : Unit) => w_X10_pump_L85 1 (nI P) (nI n) (nI d) (MA 0) c (MA 18) (XA 14) (MA 28) (XA 17) way2 _ _ f (nI (an (XA 4) (m + 1) i))) (fun m _ => True) k 0 () (by omega) trivial ?_ ?_
      · intro f _ _
        have ha := (ancl k (by omega)).1
        refine isLess_spec hP16 (by omega) (fun q1 q2 => y1 ?_) (fun q => absurd ((less _ ha).mpr z8) q)
        refine depthM_spec hf2 r3.2.2.1 (by omega) hba b1 b2' b3' ⟨rfl, ?_⟩
        obtain ⟨R, n0, hR, hn0, t1, t2, w1, w2, hrow, hway⟩ := hH
        refine ⟨P, S, hq, hN, hW, hPa, ⟨R, d, hR, by omega, t1, t2, rfl, rfl, hrow, fun j hj => ?_⟩, hg, hF, hT, hb1, hb2, hs⟩
        show way' j = way2 j ∧ ∃ s : Nat, s < S ∧ way' j = nI s
        obtain ⟨p1, p2⟩ := d3 (d - 1 - j) (by omega)
        obtain ⟨a, s, h1, h2, h3, h4, h5, h6⟩ := r4 _ p1 (by omega)
        rw [hw j hj, hw2 j hj, ← (hc _).1, h5, h6]
        exact ⟨rfl, s, h2, rfl⟩
      · intro f m _ hmk _ ih
        have ha := (ancl m (by omega)).1
        have ha2 := (ancl (m + 1) (by omega)).2
        refine isLess_spec hP16 (by omega) (fun q1 q2 => absurd ((less _ ha).mp ⟨q1, q2⟩) (z7 m hmk)) (fun q => y0 ⟨vp_in_nI (by omega) (by omega), nm ?_⟩)
        rw [nI_cl (n := an (XA 4) (m + 1) i) (by omega), ← eab _ (by omega), ha2]
        exact ih () trivial
