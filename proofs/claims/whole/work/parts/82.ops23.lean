/-! ===== the tree: marks or without end, on both sides ===== -/
def EV (x m : Int32) : Prop := (x = 2147483647 ∧ m = -1) ∨ ∃ v : Nat, v < 2000000000 ∧ x = nI v ∧ m = nI v
theorem end_max {v : Nat} (h : v < 2147483647) : nI v < (2147483647 : Int32) := nI_lt (b := 2147483647) h (by omega)
theorem end_ne {v : Nat} (h : v < 2147483647) : ¬ nI v = (2147483647 : Int32) := fun q => by
  have := (nI_eq (a := v) (b := 2147483647) (by omega) (by omega)).mp q
  omega
theorem EV_inj {x m y k : Int32} (h1 : EV x m) (h2 : EV y k) : x = y ↔ m = k := by
  rcases h1 with ⟨rfl, rfl⟩ | ⟨v, hv, rfl, rfl⟩
  · rcases h2 with ⟨rfl, rfl⟩ | ⟨u, hu, rfl, rfl⟩
    · exact ⟨fun _ => rfl, fun _ => rfl⟩
    · refine ⟨fun q => absurd q.symm (end_ne (by omega)), fun q => ?_⟩
      have : nI u < 0 := by rw [← q]; decide
      exact absurd this (nI_pos (by omega))
  · rcases h2 with ⟨rfl, rfl⟩ | ⟨u, hu, rfl, rfl⟩
    · refine ⟨fun q => absurd q (end_ne (by omega)), fun q => ?_⟩
      have : nI v < 0 := by rw [q]; decide
      exact absurd this (nI_pos (by omega))
    · exact Iff.rfl
theorem more_spec {x m y k : Int32} {post : Int32 → Prop} (h1 : EV x m) (h2 : EV y k) (p1 : y < x → post 1) (p0 : ¬ y < x → post 0) : w_X10_isMore m k post := by
  rcases h2 with ⟨rfl, rfl⟩ | ⟨u, hu, rfl, rfl⟩
  · refine tt (by decide) (p0 ?_)
    rcases h1 with ⟨rfl, rfl⟩ | ⟨v, hv, rfl, rfl⟩
    · decide
    · intro q
      exact i_irr (i_trans q (end_max (by omega)))
  · refine ff (nI_pos (by omega)) ?_
    rcases h1 with ⟨rfl, rfl⟩ | ⟨v, hv, rfl, rfl⟩
    · exact tt (by decide) (p1 (end_max (by omega)))
    · refine ff (nI_pos (by omega)) ?_
      by_cases c : nI v ≤ nI u
      · exact tt c (p0 (le_nlt c))
      · exact ff c (p1 (Int32.not_le.mp c))
/-- a row after it was held against node a -/
def st1 (P : Nat) (cells : Nat → Int32) (a : Nat) (h : Nat → Int32) : Nat → Int32 := fun p => if p < P ∧ (∀ q, q < P → cells (a * P + q) ≤ h q) ∧ cells (a * P + p) < h p then 2147483647 else h p
def HS (P : Nat) (cells former : Nat → Int32) (i : Nat) (h : Nat → Int32) : Nat → Nat → Int32
  | 0 => h
  | m + 1 => st1 P cells (an former m i) (HS P cells former i h m)
def NAB (P : Nat) (cells : Nat → Int32) (a : Nat) (h : Nat → Int32) : Prop := ∀ q, q < P → cells (a * P + q) ≤ h q
def GRW (P : Nat) (cells : Nat → Int32) (a : Nat) (h : Nat → Int32) : Prop := NAB P cells a h ∧ ∃ p, p < P ∧ ¬ h p = 2147483647 ∧ cells (a * P + p) < h p
theorem above_spec {N P a : Nat} {cells h : Nat → Int32} {post : Int32 → Prop} (hP : P ≤ 16) (hN : N ≤ 8000) (ha : a < N) (h1 : NAB P cells a h → post 1) (h0 : ¬ NAB P cells a h → post 0) : w_X4_isNowhereAbove N (nI P) cells h (nI a) post := by
  refine pk_loop (fun f k (_ : Unit) => w_X4_isNowhereAbove_L2 N (nI a) (nI P) cells h post (fun _ => post 1) f (nI k)) (fun k _ => ∀ q, q < k → cells (a * P + q) ≤ h q) P 0 () (by omega) (fun q hq => absurd hq (by omega)) ?_ ?_
  · intro f _ hg
    exact tt (nI_le (Nat.le_refl P) (by omega)) (h1 hg)
  · intro f k _ hk hg ih
    obtain ⟨b1, b2⟩ := row_in ha hk hP hN
    refine ff (nI_ge hk (by omega)) ?_
    unfold w_X4_cellAt
    rw [ixB]
    refine ⟨vp_in_nI b1 b2, vp_in_nI (by omega) (by omega), ?_⟩
    rw [nI_cl (n := a * P + k) (by omega), nI_cl (n := k) (by omega)]
    by_cases c : cells (a * P + k) ≤ h k
    · refine tt c (nm ?_)
      rw [nI_1]
      refine ih () (fun q hq => ?_)
      by_cases e : q = k
      · rw [e]; exact c
      · exact hg q (by omega)
    · exact ff c (h0 (fun w => c (w k hk)))
theorem stretch_spec {N P a : Nat} {cells h c : Nat → Int32} {post : Int32 → (Nat → Int32) → Prop} (hP : P ≤ 16) (hN : N ≤ 8000) (ha : a < N) (hc : ∀ p, p < P → c p = h p) (hNA : NAB P cells a h) (k : ∀ r c', ((r = 1 ∧ GRW P cells a h) ∨ (r = 0 ∧ ¬ GRW P cells a h)) → (∀ p, p < P → c' p = st1 P cells a h p) → post r c') : w_X8_stretch N (nI P) c cells (nI a) post := by
  have s1 : ∀ p, p < P → cells (a * P + p) < h p → st1 P cells a h p = 2147483647 := fun p hp q => if_pos ⟨hp, hNA, q⟩
  have s0 : ∀ p, p < P → ¬ cells (a * P + p) < h p → st1 P cells a h p = h p := fun p hp q => if_neg (fun w => q w.2.2)
  refine pk_loop (σ := Int32 × (Nat → Int32)) (fun f i g => w_X8_stretch_L4 N (nI a) (nI P) cells post (fun v12 _ s14 => v12 &&& 1 = v12 ∧ post v12 s14) f g.1 (nI i) g.2) (fun i g => ((g.1 = 1 ∧ ∃ p, p < i ∧ p < P ∧ ¬ h p = 2147483647 ∧ cells (a * P + p) < h p) ∨ (g.1 = 0 ∧ ∀ p, p < i → ¬ (¬ h p = 2147483647 ∧ cells (a * P + p) < h p))) ∧ (∀ p, p < i → g.2 p = st1 P cells a h p) ∧ ∀ p, i ≤ p → p < P → g.2 p = h p) P 0 (0, c) (by omega) ⟨Or.inr ⟨rfl, fun p hp => absurd hp (by omega)⟩, fun p hp => absurd hp (by omega), fun p _ hp => hc p hp⟩ ?_ ?_
  · intro f g hg
    obtain ⟨g1, g2, g3⟩ := hg
    refine tt (nI_le (Nat.le_refl P) (by omega)) ?_
    rcases g1 with ⟨e, p, hp, hpP, q1, q2⟩ | ⟨e, q⟩
    · rw [e]; exact ⟨by decide, k 1 g.2 (Or.inl ⟨rfl, hNA, p, hpP, q1, q2⟩) g2⟩
    · rw [e]; exact ⟨by decide, k 0 g.2 (Or.inr ⟨rfl, fun ⟨_, p, hp, w⟩ => q p hp w⟩) g2⟩
  · intro f i g hi hg ih
    obtain ⟨g1, g2, g3⟩ := hg
    have hin : vp_in (nI i) 16 := vp_in_nI (by omega) (by omega)
    refine ff (nI_ge hi (by omega)) ⟨hin, ?_⟩
    rw [nI_cl (n := i) (by omega), g3 i (Nat.le_refl i) hi]
    have keep : (¬ (¬ h i = 2147483647 ∧ cells (a * P + i) < h i)) → ((g.1 = 1 ∧ ∃ p, p < i + 1 ∧ p < P ∧ ¬ h p = 2147483647 ∧ cells (a * P + p) < h p) ∨ (g.1 = 0 ∧ ∀ p, p < i + 1 → ¬ (¬ h p = 2147483647 ∧ cells (a * P + p) < h p))) := fun w => by
      rcases g1 with ⟨e, p, hp, q⟩ | ⟨e, q⟩
      · exact Or.inl ⟨e, p, by omega, q⟩
      · refine Or.inr ⟨e, fun p hp => ?_⟩
        by_cases ep : p = i
        · rw [ep]; exact w
        · exact q p (by omega)
    have upto : st1 P cells a h i = h i → ∀ p, p < i + 1 → g.2 p = st1 P cells a h p := fun w p hp => by
      by_cases ep : p = i
      · rw [ep, w]; exact g3 i (Nat.le_refl i) hi
      · exact g2 p (by omega)
    by_cases c1 : h i = 2147483647
    · refine tt c1 (nm ?_)
      rw [nI_1]
      refine ih g ⟨keep (fun w => w.1 c1), upto ?_, fun p h1 h2 => g3 p (by omega) h2⟩
      by_cases q : cells (a * P + i) < h i
      · rw [s1 i hi q, c1]
      · exact s0 i hi q
    · refine ff c1 ?_
      obtain ⟨b1, b2⟩ := row_in ha hi hP hN
      unfold w_X4_cellAt
      rw [ixB]
      refine ⟨vp_in_nI b1 b2, hin, ?_⟩
      rw [nI_cl (n := a * P + i) (by omega)]
      by_cases c2 : h i ≤ cells (a * P + i)
      · refine tt c2 (nm ?_)
        rw [nI_1]
        exact ih g ⟨keep (fun w => le_nlt c2 w.2), upto (s0 i hi (le_nlt c2)), fun p h1 h2 => g3 p (by omega) h2⟩
      · have c2' := Int32.not_le.mp c2
        refine ff c2 ⟨hin, nm ?_⟩
        rw [nI_1]
        refine ih (1, upd g.2 i 2147483647) ⟨Or.inl ⟨rfl, i, by omega, hi, c1, c2'⟩, fun p hp => ?_, fun p h1 h2 => ?_⟩
        · show upd g.2 i 2147483647 p = _
          by_cases ep : p = i
          · rw [ep, pk_us, s1 i hi c2']
          · rw [pk_un ep]; exact g2 p (by omega)
        · show upd g.2 i 2147483647 p = h p
          rw [pk_un (by omega)]; exact g3 p (by omega) h2
theorem st1_no {P : Nat} {cells h : Nat → Int32} {a : Nat} (hn : ¬ NAB P cells a h) : st1 P cells a h = h := funext fun p => if_neg (fun w => hn w.2.1)
theorem NAB_congr {P a : Nat} {cells h h' : Nat → Int32} (e : ∀ p, p < P → h p = h' p) : NAB P cells a h ↔ NAB P cells a h' := ⟨fun q p hp => by rw [← e p hp]; exact q p hp, fun q p hp => by rw [e p hp]; exact q p hp⟩
/-- the nearest node by which something grew -/
def NI_ (P : Nat) (cells former : Nat → Int32) (i : Nat) (h : Nat → Int32) (m : Nat) (r : Int32) : Prop :=
  (r = -1 ∧ ∀ k, k < m → ¬ GRW P cells (an former k i) (HS P cells former i h k)) ∨ ∃ k, k < m ∧ r = nI (an former k i) ∧ GRW P cells (an former k i) (HS P cells former i h k) ∧ ∀ j, j < k → ¬ GRW P cells (an former j i) (HS P cells former i h j)
section AL
variable {n : Nat} {former : Nat → Int32}
theorem along_spec {N P i d : Nat} {cells c h : Nat → Int32} {post : Int32 → (Nat → Int32) → Prop} (hP : P ≤ 16) (hN : N ≤ 8000) (hnN : n ≤ N) (hf : ∀ j, 0 < j → j < n → ∃ a : Nat, a < j ∧ former j = nI a) (hr : former 0 = NONE) (hi : i < n) (hd : d ≤ i) (h0 : an former d i = 0) (hm : ∀ m, m < d → 0 < an former m i ∧ an former m i + m ≤ i) (hc : ∀ p, p < P → c p = h p)
    (k : ∀ r c', NI_ P cells former i h (d + 1) r → (∀ p, p < P → c' p = HS P cells former i h (d + 1) p) → post r c') : w_X8_stretchAlong N (nI n) (nI P) c cells former (nI i) post := by
  have bnd : ∀ m, m ≤ d → an former m i + m ≤ i := fun m hmd => by
    by_cases e : m = d
    · rw [e, h0]; omega
    · exact (hm m (by omega)).2
  refine pk_loop (σ := Int32 × (Nat → Int32)) (fun f m g => w_X8_stretchAlong_L13 N (nI n) (nI P) cells former post (fun v23 _ _ s26 => post v23 s26) f g.1 (if m ≤ d then nI (an former m i) else NONE) (nI (n - m)) g.2) (fun m g => NI_ P cells former i h m g.1 ∧ ∀ p, p < P → g.2 p = HS P cells former i h m p) (d + 1) 0 (-1, c) (by omega) ⟨Or.inl ⟨rfl, fun k hk => absurd hk (by omega)⟩, hc⟩ ?_ ?_
  · intro f g hg
    by_cases z : n - (d + 1) = 0
    · rw [z]
      exact tt (by decide) (k _ _ hg.1 hg.2)
    · refine ff (nI_nle (by omega) (by omega)) ?_
      rw [if_neg (by omega)]
      exact tt none_neg (k _ _ hg.1 hg.2)
  · intro f m g hmd hg ih
    obtain ⟨g1, g2⟩ := hg
    have hb := bnd m (by omega)
    have hin : vp_in (nI (an former m i)) N := vp_in_nI (by omega) (by omega)
    refine ff (nI_nle (by omega) (by omega)) ?_
    rw [if_pos (show m ≤ d by omega)]
    have nxt : former (an former m i) = if m + 1 ≤ d then nI (an former (m + 1) i) else NONE := by
      by_cases e : m = d
      · rw [if_neg (by omega), e, h0]; exact hr
      · rw [if_pos (by omega)]
        exact (an_step hf (by omega) (hm m (by omega)).1 (by omega)).2
    have rest : ∀ r c', NI_ P cells former i h (m + 1) r → (∀ p, p < P → c' p = HS P cells former i h (m + 1) p) → (vp_in (nI (an former m i)) N ∧ ∀ x8 : Int32, x8 = former (nI (an former m i)).toNatClampNeg → ∀ x9 : Int32, x9 = nI (n - m) + (-1 : Int32) → w_X8_stretchAlong_L13 N (nI n) (nI P) cells former post (fun v23 _ _ s26 => post v23 s26) f r x8 x9 c') := by
      intro r c' hr' hc'
      refine ⟨hin, nm (nm ?_)⟩
      rw [nI_cl (n := an former m i) (by omega), nxt, sb_m1 (by omega), show n - m - 1 = n - (m + 1) by omega]
      exact ih (r, c') ⟨hr', hc'⟩
    have keepN : ¬ GRW P cells (an former m i) (HS P cells former i h m) → NI_ P cells former i h (m + 1) g.1 := fun w => by
      rcases g1 with ⟨e, q⟩ | ⟨j, hj, q⟩
      · refine Or.inl ⟨e, fun k hk => ?_⟩
        by_cases ek : k = m
        · rw [ek]; exact w
        · exact q k (by omega)
      · exact Or.inr ⟨j, by omega, q⟩
    refine ff (nI_pos (by omega)) (above_spec hP hN (by omega) (fun hna => z1 ?_) (fun hna => z0 ?_))
    · have hna' := (NAB_congr g2).mp hna
      refine stretch_spec hP hN (by omega) g2 hna' (fun r c' hr' hc' => ?_)
      rcases hr' with ⟨rfl, q⟩ | ⟨rfl, q⟩
      · refine z1 ?_
        rcases g1 with ⟨e, w⟩ | ⟨j, hj, e, w⟩
        · rw [e]
          refine ff (by decide) (rest _ _ (Or.inr ⟨m, by omega, rfl, q, w⟩) hc')
        · rw [e]
          have hbj := bnd j (by omega)
          exact tt (nI_pos' (by omega)) (rest _ _ (Or.inr ⟨j, by omega, rfl, w⟩) hc')
      · exact z0 (rest _ _ (keepN q) hc')
    · have hna' : ¬ NAB P cells (an former m i) (HS P cells former i h m) := fun w => hna ((NAB_congr g2).mpr w)
      refine rest _ _ (keepN (fun w => hna' w.1)) (fun p hp => ?_)
      show g.2 p = st1 P cells (an former m i) (HS P cells former i h m) p
      rw [st1_no hna']; exact g2 p hp
end AL
