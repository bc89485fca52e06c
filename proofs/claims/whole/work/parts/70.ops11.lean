/-! ===== a going, place by place, on both sides ===== -/
theorem mv_0 {a : Nat → Nat} {w : Int32} : ∀ i, mv a w 0 i = (0, (List.range i).map a)
  | 0 => rfl
  | i + 1 => by
    have ih := mv_0 (a := a) (w := w) i
    rw [mv_no (by rw [ih]; simp), ih, List.range_succ, List.map_append]
    rfl
theorem sshr_bit1 {x : Int32} {p : Nat} (hp : p < 31) : ((x >>> (nI p &&& 31)) &&& 1) = 1 ↔ bt x p = true := by
  constructor
  · intro h
    have := congrArg (fun y => bt y 0) h
    simp only [b_and] at this
    rw [b_sshr p (by omega) x (by omega), if_pos (by omega), b_1 0 (by omega)] at this
    simpa using this
  · intro h
    refine b_ext (fun i hi => ?_)
    rw [b_and, b_1 i hi]
    by_cases e : i = 0
    · subst e
      rw [b_sshr p (by omega) x (by omega), if_pos (by omega)]
      simp [h]
    · simp [e]
/-- what the class makes of a place -/
def mvX (pk tk pt wt gf : Nat → Int32) (s : Nat) (many : Nat → Int32) (things : Nat → Int64) (many' : Nat → Int32) (things' : Nat → Int64) (p : Nat) : Prop :=
  (tk (16 * s + p) = 0 ∧ pt (16 * s + p) = 0 ∧ many' p = many p ∧ things' p = things p) ∨
  (pk p = 0 ∧ many' p = (if many p = 2147483647 then many p else many p + (pt (16 * s + p) - tk (16 * s + p))) ∧ things' p = things p) ∨
  (pk p = 1 ∧ ∀ v t n u k : Nat, many p = nI v → v ≤ 20 → things p = lN t → t < 4 ^ v → tk (16 * s + p) = nI n → n ≤ 9 → pt (16 * s + p) = nI u → u ≤ 9 → gf (16 * s + p) = nI k → k ≤ 3 → many' p = nI ((mv (fun i => t / 4 ^ i % 4) (wt (16 * s + p)) n v).2 ++ List.replicate u k).length ∧ things' p = lN (pack ((mv (fun i => t / 4 ^ i % 4) (wt (16 * s + p)) n v).2 ++ List.replicate u k)))
theorem nI_inj {a b : Nat} (ha : a < 2 ^ 31) (hb : b < 2 ^ 31) (h : nI a = nI b) : a = b := (nI_eq ha hb).mp h
theorem lN_inj {a b : Nat} (ha : a < 2 ^ 63) (hb : b < 2 ^ 63) (h : lN a = lN b) : a = b := (pk_lEQ ha hb).mp h
theorem move_gen {P s : Nat} {gf pk pt pi tk tf wt many : Nat → Int32} {things : Nat → Int64} {post : (Nat → Int32) → (Nat → Int64) → Prop} (hP : P ≤ 16) (hs : s < 16)
    (m1 : ∀ i, i < 32 → bt (tf s) i = decide (i < 16 ∧ ¬ tk (16 * s + i) = 0)) (m2 : ∀ i, i < 32 → bt (pi s) i = decide (i < 16 ∧ ¬ pt (16 * s + i) = 0))
    (hc : ∀ p, p < P → pk p = 0 ∨ (pk p = 1 ∧ ∃ v t n u k : Nat, many p = nI v ∧ v ≤ 20 ∧ things p = lN t ∧ t < 4 ^ v ∧ tk (16 * s + p) = nI n ∧ n ≤ 9 ∧ pt (16 * s + p) = nI u ∧ u ≤ 9 ∧ gf (16 * s + p) = nI k ∧ k ≤ 3 ∧ (mv (fun i => t / 4 ^ i % 4) (wt (16 * s + p)) n v).2.length + u ≤ 20))
    (h : ∀ m' t', (∀ p, p < P → mvX pk tk pt wt gf s many things m' t' p) → (∀ p, P ≤ p → m' p = many p ∧ t' p = things p) → post m' t') : w_X5_move (nI P) gf pk pt pi tk tf wt many things (nI s) post := by
  have his : vp_in (nI s) 16 := vp_in_nI hs (by omega)
  have hb : ∀ p, p < 16 → bt (tf s ||| pi s) p = decide (¬ tk (16 * s + p) = 0 ∨ ¬ pt (16 * s + p) = 0) := fun p hp => by
    rw [b_or, m1 p (by omega), m2 p (by omega)]
    by_cases e1 : tk (16 * s + p) = 0 <;> by_cases e2 : pt (16 * s + p) = 0 <;> simp [hp, e1, e2]
  have off : ∀ p, p < 16 → bt (tf s ||| pi s) p = false → tk (16 * s + p) = 0 ∧ pt (16 * s + p) = 0 := fun p hp q => by
    rw [hb p hp] at q
    have q := of_decide_eq_false q
    exact ⟨Classical.byContradiction fun r => q (Or.inl r), Classical.byContradiction fun r => q (Or.inr r)⟩
  refine ⟨his, his, nm ?_⟩
  rw [nI_cl (n := s) (by omega)]
  refine pk_loop (σ := (Nat → Int32) × (Nat → Int64)) (fun n i g => w_X5_move_L17 (nI s) (tf s ||| pi s) (nI P) gf pk pt pi tk tf wt post (fun _ s15 s16 => post s15 s16) n (nI i) g.1 g.2) (fun i g => (∀ p, p < i → mvX pk tk pt wt gf s many things g.1 g.2 p) ∧ ∀ p, i ≤ p → g.1 p = many p ∧ g.2 p = things p) P 0 (many, things) (by omega) ⟨fun p hp => absurd hp (by omega), fun p _ => ⟨rfl, rfl⟩⟩ ?_ ?_
  · intro n g hg
    exact tt (nI_le (Nat.le_refl P) (by omega)) (h _ _ hg.1 hg.2)
  · intro n i g hi hg ih
    obtain ⟨g1, g2⟩ := hg
    refine ff (nI_ge hi (by omega)) ?_
    by_cases c : ((tf s ||| pi s) >>> (nI i &&& 31)) = 0
    · refine tt c (h _ _ (fun p hp => ?_) (fun p hp => g2 p (by omega)))
      by_cases e : p < i
      · exact g1 p e
      · have q := off p (by omega) (sshr_zero (by omega) c p (by omega) (by omega))
        exact Or.inl ⟨q.1, q.2, g2 p (by omega)⟩
    refine ff c ?_
    -- the next place, its own row changed alone
    have nxt : ∀ m' t', mvX pk tk pt wt gf s many things m' t' i → (∀ q, q ≠ i → m' q = g.1 q ∧ t' q = g.2 q) → w_X5_move_L17 (nI s) (tf s ||| pi s) (nI P) gf pk pt pi tk tf wt post (fun _ s15 s16 => post s15 s16) n (nI (i + 1)) m' t' := by
      intro m' t' hm hr
      refine ih (m', t') ⟨fun p hp => ?_, fun p hp => ?_⟩
      · by_cases e : p = i
        · subst e; exact hm
        · have q := g1 p (by omega)
          show mvX pk tk pt wt gf s many things m' t' p
          unfold mvX at q ⊢
          rw [(hr p e).1, (hr p e).2]
          exact q
      · show m' p = many p ∧ t' p = things p
        rw [(hr p (by omega)).1, (hr p (by omega)).2]
        exact g2 p (by omega)
    by_cases b : (((tf s ||| pi s) >>> (nI i &&& 31)) &&& 1) = 1
    · refine nt b ?_
      have hx : vp_in (nI (16 * s + i)) 256 := vp_in_nI (by omega) (by omega)
      have hii : vp_in (nI i) 16 := vp_in_nI (by omega) (by omega)
      unfold w_X9_crossing w_X5_moveAt
      rw [ixC]
      rcases hc i hi with c0 | ⟨c1, v, t, n', u, k, k1, k2, k3, k4, k5, k6, k7, k8, k9, k10, k11⟩
      · refine isCol_no (by omega) (by rw [c0]; decide) (z0 ⟨hii, ?_⟩)
        rw [nI_cl (n := i) (by omega), nI_cl (n := 16 * s + i) (by omega), (g2 i (Nat.le_refl i)).1]
        by_cases d : many i = 2147483647
        · refine tt d (nm ?_)
          rw [nI_1]
          exact nxt _ _ (Or.inr (Or.inl ⟨c0, by rw [if_pos d]; exact (g2 i (Nat.le_refl i)).1, (g2 i (Nat.le_refl i)).2⟩)) (fun q _ => ⟨rfl, rfl⟩)
        · refine ff d ⟨hii, hx, hx, hii, nm ?_⟩
          rw [nI_1]
          exact nxt _ _ (Or.inr (Or.inl ⟨c0, by rw [if_neg d, pk_us], (g2 i (Nat.le_refl i)).2⟩)) (fun q hq => ⟨pk_un hq, rfl⟩)
      · refine isCol_yes (by omega) c1 (z1 ⟨hx, hx, ?_⟩)
        rw [nI_cl (n := 16 * s + i) (by omega), k5, k7, k9]
        have e1 := (g2 i (Nat.le_refl i)).1
        have e2 := (g2 i (Nat.le_refl i)).2
        have hsm := mv_small (a := fun i => t / 4 ^ i % 4) (w := wt (16 * s + i)) (n := n') v (fun j _ => by show t / 4 ^ j % 4 ≤ 3; omega)
        refine takeFirst_spec (by omega) (e1.trans k1) k2 k6 (e2.trans k3) k4 (fun m1' t1' a1 a2 a3 => ⟨hx, hx, appendMany_spec (by omega) a1 a2 k11 hsm k10 (fun m2' t2' b1 b2 b3 => nm ?_)⟩)
        rw [nI_1]
        refine nxt m2' t2' (Or.inr (Or.inr ⟨c1, fun v2 t2 n2 u2 k2' f1 f2 f3 f4 f5 f6 f7 f8 f9 f10 => ?_⟩)) (fun q hq => ⟨(b3 q hq).1.trans (a3 q hq).1, (b3 q hq).2.trans (a3 q hq).2⟩)
        have q1 : v2 = v := nI_inj (by omega) (by omega) (f1.symm.trans k1)
        subst q1
        have p1 := pow40 f2 f4
        have p2 := pow40 f2 k4
        have q2 : t2 = t := lN_inj (by omega) (by omega) (f3.symm.trans k3)
        have q3 : n2 = n' := nI_inj (by omega) (by omega) (f5.symm.trans k5)
        have q4 : u2 = u := nI_inj (by omega) (by omega) (f7.symm.trans k7)
        have q5 : k2' = k := nI_inj (by omega) (by omega) (f9.symm.trans k9)
        subst q2 q3 q4 q5
        exact ⟨b1, b2⟩
    · refine nf b (nm ?_)
      rw [nI_1]
      have hb0 : bt (tf s ||| pi s) i = false := by
        cases e : bt (tf s ||| pi s) i
        · rfl
        · exact absurd ((sshr_bit1 (by omega)).mpr e) b
      have q := off i (by omega) hb0
      exact nxt _ _ (Or.inl ⟨q.1, q.2, g2 i (Nat.le_refl i)⟩) (fun q _ => ⟨rfl, rfl⟩)
/-- what the reference makes of a place -/
theorem goM_spec {P s : Nat} {x y z : Int32} {gf pk pt tk wt has mth ph ps pts : Nat → Int32} {post : Int32 → Int32 → Int32 → (Nat → Int32) → (Nat → Int32) → (Nat → Int32) → (Nat → Int32) → (Nat → Int32) → Prop} {K : Int32 → (Nat → Int32) → (Nat → Int32) → Prop} (hP : P ≤ 16) (hs : s < 16)
    (hc : ∀ p, p < P → pk p = 0 ∨ (pk p = 1 ∧ ∃ (v n u k : Nat) (a : Nat → Nat), has p = nI v ∧ v ≤ 20 ∧ (∀ i, i < v → mth (20 * p + i) = nI (a i) ∧ a i ≤ 3) ∧ tk (16 * s + p) = nI n ∧ n ≤ 9 ∧ pt (16 * s + p) = nI u ∧ u ≤ 9 ∧ gf (16 * s + p) = nI k ∧ k ≤ 3 ∧ (mv a (wt (16 * s + p)) n v).2.length + u ≤ 20))
    (h : ∀ x' h' m', (∀ p, p < P → pk p = 0 → h' p = has p + (pt (16 * s + p) - tk (16 * s + p))) → (∀ p, p < P → pk p = 1 → ∃ (v n u k : Nat) (a : Nat → Nat), has p = nI v ∧ v ≤ 20 ∧ (∀ i, i < v → mth (20 * p + i) = nI (a i) ∧ a i ≤ 3) ∧ tk (16 * s + p) = nI n ∧ n ≤ 9 ∧ pt (16 * s + p) = nI u ∧ u ≤ 9 ∧ gf (16 * s + p) = nI k ∧ k ≤ 3 ∧ (mv a (wt (16 * s + p)) n v).2.length + u ≤ 20 ∧ h' p = nI ((mv a (wt (16 * s + p)) n v).2 ++ List.replicate u k).length ∧ ∀ i, i < (mv a (wt (16 * s + p)) n v).2.length + u → m' (20 * p + i) = nI (((mv a (wt (16 * s + p)) n v).2 ++ List.replicate u k).getD i 0)) → (∀ p, P ≤ p → h' p = has p) → K x' h' m') :
    ∃ n : Nat, w_X10_goNow_L17 (nI s) x y z (nI P) pk gf ph ps pts pt tk wt post K n 0 has mth := by
  refine pk_loop (σ := (Nat → Int32) × (Nat → Int32)) (fun n i g => w_X10_goNow_L17 (nI s) x y z (nI P) pk gf ph ps pts pt tk wt post K n (nI i) g.1 g.2)
    (fun i g => (∀ p, p < i → pk p = 0 → g.1 p = has p + (pt (16 * s + p) - tk (16 * s + p))) ∧ (∀ p, p < i → pk p = 1 → ∃ (v n u k : Nat) (a : Nat → Nat), has p = nI v ∧ v ≤ 20 ∧ (∀ i, i < v → mth (20 * p + i) = nI (a i) ∧ a i ≤ 3) ∧ tk (16 * s + p) = nI n ∧ n ≤ 9 ∧ pt (16 * s + p) = nI u ∧ u ≤ 9 ∧ gf (16 * s + p) = nI k ∧ k ≤ 3 ∧ (mv a (wt (16 * s + p)) n v).2.length + u ≤ 20 ∧ g.1 p = nI ((mv a (wt (16 * s + p)) n v).2 ++ List.replicate u k).length ∧ ∀ i, i < (mv a (wt (16 * s + p)) n v).2.length + u → g.2 (20 * p + i) = nI (((mv a (wt (16 * s + p)) n v).2 ++ List.replicate u k).getD i 0)) ∧ (∀ p, i ≤ p → g.1 p = has p) ∧ ∀ p j, i ≤ p → j < 20 → g.2 (20 * p + j) = mth (20 * p + j)) P 0 (has, mth) (by omega) ⟨fun p hp => absurd hp (by omega), fun p hp => absurd hp (by omega), fun p _ => rfl, fun p j _ _ => rfl⟩ ?_ ?_
  · intro n g hg
    exact tt (nI_le (Nat.le_refl P) (by omega)) (h _ _ _ hg.1 hg.2.1 hg.2.2.1)
  · intro n i g hi hg ih
    obtain ⟨g1, g2, g3, g4⟩ := hg
    have hii : vp_in (nI i) 16 := vp_in_nI (by omega) (by omega)
    have hx : vp_in (nI (16 * s + i)) 256 := vp_in_nI (by omega) (by omega)
    refine ff (nI_ge hi (by omega)) ⟨hii, ?_⟩
    rw [nI_cl (n := i) (by omega)]
    rcases hc i hi with c0 | ⟨c1, v, n', u, k, a, k1, k2, k3, k4, k5, k6, k7, k8, k9, k10⟩
    · rw [ixA, nI_cl (n := 16 * s + i) (by omega)]
      refine nf (by rw [c0]; decide) ⟨hii, hx, hx, hii, nm ?_⟩
      rw [nI_1]
      refine ih (upd g.1 i (g.1 i + (pt (16 * s + i) - tk (16 * s + i))), g.2) ⟨fun p hp q => ?_, fun p hp q => ?_, fun p hp => ?_, fun p j hp hj => g4 p j (by omega) hj⟩
      · show upd g.1 i (g.1 i + (pt (16 * s + i) - tk (16 * s + i))) p = _
        by_cases e : p = i
        · subst e; rw [pk_us, g3 p (Nat.le_refl p)]
        · rw [pk_un e]; exact g1 p (by omega) q
      · by_cases e : p = i
        · subst e; rw [c0] at q; exact absurd q (by decide)
        · show ∃ (v n u k : Nat) (a : Nat → Nat), _ ∧ _ ∧ _ ∧ _ ∧ _ ∧ _ ∧ _ ∧ _ ∧ _ ∧ _ ∧ upd g.1 i (g.1 i + (pt (16 * s + i) - tk (16 * s + i))) p = _ ∧ _
          rw [pk_un e]; exact g2 p (by omega) q
      · show upd g.1 i (g.1 i + (pt (16 * s + i) - tk (16 * s + i))) p = has p
        rw [pk_un (by omega)]; exact g3 p (by omega)
    · refine nt c1 (moveM_spec (a := a) hs (by omega) ((g3 i (Nat.le_refl i)).trans k1) k2 k4 k5 k6 k7 k8 (fun j hj => (g4 i j (Nat.le_refl i) (by omega)).trans (k3 j hj).1) k10 (fun m' e1 e2 => nm ?_))
      rw [nI_1]
      refine ih (upd g.1 i (nI ((mv a (wt (16 * s + i)) n' v).2 ++ List.replicate u k).length), m') ⟨fun p hp q => ?_, fun p hp q => ?_, fun p hp => ?_, fun p j hp hj => ?_⟩
      · by_cases e : p = i
        · subst e; rw [c1] at q; exact absurd q (by decide)
        · show upd g.1 i _ p = _
          rw [pk_un e]; exact g1 p (by omega) q
      · by_cases e : p = i
        · subst e
          exact ⟨v, n', u, k, a, k1, k2, k3, k4, k5, k6, k7, k8, k9, k10, pk_us, e1⟩
        · obtain ⟨v', n2, u', k', a', r1, r2, r3, r4, r5, r6, r7, r8, r9, r10, r11, r12⟩ := g2 p (by omega) q
          refine ⟨v', n2, u', k', a', r1, r2, r3, r4, r5, r6, r7, r8, r9, r10, ?_, fun j hj => ?_⟩
          · show upd g.1 i _ p = _
            rw [pk_un e]; exact r11
          · show m' (20 * p + j) = _
            rw [e2 _ (by omega)]; exact r12 j hj
      · show upd g.1 i _ p = has p
        rw [pk_un (by omega)]; exact g3 p (by omega)
      · show m' (20 * p + j) = mth (20 * p + j)
        rw [e2 _ (by omega)]; exact g4 p j (by omega) hj
