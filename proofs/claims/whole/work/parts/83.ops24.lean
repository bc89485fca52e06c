/-! ===== the tree on the reference's side ===== -/
theorem fl_post {A : Nat → Prop} {i : Nat} {v : Int32} {post : Int32 → Prop} (hg : fl A i v) (h1 : (∀ s, s < i → A s) → post 1) (h0 : (¬ ∀ s, s < i → A s) → post 0) : v &&& 1 = v ∧ post v := by
  refine ⟨fl_b hg, ?_⟩
  rcases hg with ⟨rfl, q⟩ | ⟨rfl, s, hs, q⟩
  · exact h1 q
  · exact h0 (fun w => q (w s hs))
theorem within_spec {P a b : Nat} {nodes x y : Nat → Int32} {post : Int32 → Prop} (hP : P ≤ 16) (ha : a < 2000) (hb : b < 2000) (hx : ∀ p, p < P → EV (x p) (nodes (16 * a + p))) (hy : ∀ p, p < P → EV (y p) (nodes (16 * b + p))) (h1 : (∀ p, p < P → ¬ y p < x p) → post 1) (h0 : (¬ ∀ p, p < P → ¬ y p < x p) → post 0) : w_X10_isWithin (nI P) nodes (nI a) (nI b) post := by
  refine pk_loop (fun n i (v : Int32) => w_X10_isWithin_L5 (nI a) (nI b) (nI P) nodes post (fun v12 _ => v12 &&& 1 = v12 ∧ post v12) n v (nI i)) (fun i v => fl (fun p => ¬ y p < x p) i v) P 0 1 (by omega) (fl_0 _) ?_ ?_
  · intro n v hg
    exact tt (nI_le (Nat.le_refl P) (by omega)) (fl_post hg h1 h0)
  · intro n i v hi hg ih
    refine ff (nI_ge hi (by omega)) ⟨fun c => nm ?_, fun c => ?_⟩
    · rw [nI_1]; exact ih _ (fl_keep hg c)
    · rw [ixA, ixA]
      refine ⟨vp_in_nI (by omega) (by omega), vp_in_nI (by omega) (by omega), ?_⟩
      rw [nI_cl (n := 16 * a + i) (by omega), nI_cl (n := 16 * b + i) (by omega)]
      refine more_spec (hx i hi) (hy i hi) (fun d => y1 (nm ?_)) (fun d => y0 (nm ?_))
      · rw [nI_1]; exact ih _ (fl_no (fun w => w d))
      · rw [nI_1]; exact ih _ (fl_yes hg c d)
theorem nlt_le' {a b : Int32} (h : ¬ a < b) : b ≤ a := Int32.not_lt.mp h
theorem EV_le {x m : Int32} (h : EV x m) : x ≤ 2147483647 := by
  rcases h with ⟨rfl, -⟩ | ⟨v, hv, rfl, -⟩
  · decide
  · exact Int32.not_lt.mp (fun q => i_irr (i_trans q (end_max (by omega))))
theorem st1_end {P : Nat} {cells h : Nat → Int32} {a p : Nat} (hn : NAB P cells a h) (hp : p < P) (q : cells (a * P + p) < h p) : st1 P cells a h p = 2147483647 := if_pos ⟨hp, hn, q⟩
theorem st1_eq {P : Nat} {cells h : Nat → Int32} {a p : Nat} (q : ¬ cells (a * P + p) < h p) : st1 P cells a h p = h p := if_neg (fun w => q w.2.2)
theorem st1_EV {P : Nat} {cells h : Nat → Int32} {a p : Nat} {m : Int32} (e : EV (h p) m) : ∃ m', EV (st1 P cells a h p) m' := by
  unfold st1
  split
  · exact ⟨-1, Or.inl ⟨rfl, rfl⟩⟩
  · exact ⟨m, e⟩
theorem grows_spec {P a n : Nat} {nodes cells h : Nat → Int32} {post : Int32 → (Nat → Int32) → Prop} (hP : P ≤ 16) (ha : a < n) (hn : n < 2000) (hx : ∀ p, p < P → EV (cells (a * P + p)) (nodes (16 * a + p))) (hy : ∀ p, p < P → EV (h p) (nodes (16 * n + p)))
    (k : ∀ r nodes', (∀ q, q < 16 * n → nodes' q = nodes q) → (∀ p, p < P → EV (st1 P cells a h p) (nodes' (16 * n + p))) → post r nodes') : w_X10_grows (nI P) nodes (nI n) (nI a) post := by
  by_cases hna : NAB P cells a h
  · refine pk_loop (σ := Int32 × (Nat → Int32)) (fun f i g => w_X10_grows_L5 (nI n) (nI a) (nI P) post (fun v12 _ s14 => v12 &&& 1 = v12 ∧ post v12 s14) f g.1 (nI i) g.2) (fun i g => (g.1 = 0 ∨ g.1 = 1) ∧ (∀ q, q < 16 * n → g.2 q = nodes q) ∧ (∀ p, p < P → EV (if p < i then st1 P cells a h p else h p) (g.2 (16 * n + p)))) P 0 (0, nodes) (by omega) ⟨Or.inl rfl, fun _ _ => rfl, fun p hp => by rw [if_neg (by omega)]; exact hy p hp⟩ ?_ ?_
    · intro f g hg
      refine tt (nI_le (Nat.le_refl P) (by omega)) ⟨?_, k _ _ hg.2.1 (fun p hp => ?_)⟩
      · rcases hg.1 with e | e <;> rw [e] <;> decide
      · have := hg.2.2 p hp
        rw [if_pos hp] at this; exact this
    · intro f i g hi hg ih
      obtain ⟨g1, g2, g3⟩ := hg
      have hxg : ∀ p, p < P → EV (cells (a * P + p)) (g.2 (16 * a + p)) := fun p hp => by rw [g2 _ (by omega)]; exact hx p hp
      refine ff (nI_ge hi (by omega)) (within_spec hP (by omega) hn hxg g3 (fun _ => z1 ?_) (fun w => absurd (fun p hp => ?_) w))
      · rw [ixA, ixA]
        have hin : vp_in (nI (16 * n + i)) 32000 := vp_in_nI (by omega) (by omega)
        refine ⟨hin, vp_in_nI (by omega) (by omega), ?_⟩
        rw [nI_cl (n := 16 * n + i) (by omega), nI_cl (n := 16 * a + i) (by omega)]
        have gi := g3 i hi
        rw [if_neg (by omega)] at gi
        refine more_spec gi (hxg i hi) (fun d => z1 ⟨hin, nm ?_⟩) (fun d => z0 (nm ?_))
        · rw [nI_1]
          refine ih (1, upd g.2 (16 * n + i) (-1)) ⟨Or.inr rfl, fun q hq => ?_, fun p hp => ?_⟩
          · show upd g.2 (16 * n + i) (-1) q = _
            rw [pk_un (by omega)]; exact g2 q hq
          · show EV (if p < i + 1 then st1 P cells a h p else h p) (upd g.2 (16 * n + i) (-1) (16 * n + p))
            by_cases e : p = i
            · rw [e, if_pos (by omega), st1_end hna hi d, pk_us]; exact Or.inl ⟨rfl, rfl⟩
            · rw [pk_un (by omega)]
              have := g3 p hp
              by_cases c : p < i
              · rw [if_pos c] at this; rw [if_pos (by omega)]; exact this
              · rw [if_neg c] at this; rw [if_neg (by omega)]; exact this
        · rw [nI_1]
          refine ih g ⟨g1, g2, fun p hp => ?_⟩
          by_cases e : p = i
          · rw [e, if_pos (by omega), st1_eq d]; exact gi
          · have := g3 p hp
            by_cases c : p < i
            · rw [if_pos c] at this; rw [if_pos (by omega)]; exact this
            · rw [if_neg c] at this; rw [if_neg (by omega)]; exact this
      · intro q
        have hb := hna p hp
        by_cases c : p < i
        · rw [if_pos c] at q
          by_cases d : cells (a * P + p) < h p
          · rw [st1_end hna hp d] at q
            exact le_nlt (EV_le (hx p hp)) q
          · rw [st1_eq d] at q; exact le_nlt hb q
        · rw [if_neg c] at q; exact le_nlt hb q
  · have hP0 : 0 < P := by
      rcases Nat.eq_zero_or_pos P with e | e
      · exact absurd (fun q hq => absurd hq (by omega)) hna
      · exact e
    refine ⟨1, ff (nI_ge (a := 0) hP0 (by omega)) (within_spec hP (by omega) hn hx hy (fun w => absurd (fun p hp => nlt_le' (w p hp)) hna) (fun _ => z0 ⟨by decide, k _ _ (fun _ _ => rfl) (fun p hp => ?_)⟩))⟩
    rw [st1_no hna]; exact hy p hp
theorem addNode_spec {P i s n d : Nat} {nodes mabove mstep cells former pt tk h : Nat → Int32} {post : Int32 → (Nat → Int32) → (Nat → Int32) → (Nat → Int32) → Prop} (hP : P ≤ 16) (hs : s < 16) (hi : i < n) (hn : n < 2000) (hf : ∀ j, 0 < j → j < n → ∃ a : Nat, a < j ∧ former j = nI a) (hr : former 0 = NONE) (ha : ∀ j, j < n → former j = mabove j) (hd : d ≤ i) (h0 : an former d i = 0) (hm : ∀ m, m < d → 0 < an former m i ∧ an former m i + m ≤ i) (hE : ∀ j p, j < n → p < P → EV (cells (j * P + p)) (nodes (16 * j + p)))
    (hv : ∀ p, p < P → EV (h p) (if 0 ≤ nodes (16 * i + p) then nodes (16 * i + p) + pt (16 * s + p) - tk (16 * s + p) else -1))
    (k : ∀ nodes', (∀ q, q < 16 * n → nodes' q = nodes q) → (∀ p, p < P → EV (HS P cells former i h (d + 1) p) (nodes' (16 * n + p))) → post (nI (n + 1)) (upd mabove n (nI i)) nodes' (upd mstep n (nI s))) : w_X10_addNode (nI P) (nI n) mabove nodes pt mstep tk (nI i) (nI s) post := by
  have bnd : ∀ m, m ≤ d → an former m i + m ≤ i := fun m hmd => by
    by_cases e : m = d
    · rw [e, h0]; omega
    · exact (hm m (by omega)).2
  have hin : vp_in (nI n) 2000 := vp_in_nI hn (by omega)
  refine pk_loop (fun f p (g : Nat → Int32) => w_X10_addNode_L8 (nI i) (nI s) (nI n) (nI P) (nI n) mabove pt mstep tk post _ f (nI p) g) (fun j g => (∀ q, q < 16 * n → g q = nodes q) ∧ ∀ p, p < j → EV (h p) (g (16 * n + p))) P 0 nodes (by omega) ⟨fun _ _ => rfl, fun p hp => absurd hp (by omega)⟩ ?_ ?_
  · intro f g hg
    refine tt (nI_le (Nat.le_refl P) (by omega)) ⟨hin, hin, nm ?_⟩
    rw [nI_1, nI_cl (n := n) (by omega)]
    refine pk_loop (fun f m (g : Nat → Int32) => w_X10_addNode_L113 (nI n) (nI P) (nI (n + 1)) (upd mabove n (nI i)) pt (upd mstep n (nI s)) tk post (fun _ s19 => post (nI (n + 1)) (upd mabove n (nI i)) s19 (upd mstep n (nI s))) f (if m ≤ d then nI (an former m i) else NONE) g) (fun m g => (∀ q, q < 16 * n → g q = nodes q) ∧ ∀ p, p < P → EV (HS P cells former i h m p) (g (16 * n + p))) (d + 1) 0 g (by omega) hg ?_ ?_
    · intro f g hg
      rw [if_neg (by omega)]
      exact tt rfl (k g hg.1 hg.2)
    · intro f m g hmd hg ih
      have hb := bnd m (by omega)
      rw [if_pos (by omega)]
      refine ff (nI_none (by omega)) (grows_spec (cells := cells) hP (by omega) hn (fun p hp => ?_) hg.2 (fun r g' e1 e2 => ⟨vp_in_nI (by omega) (by omega), nm ?_⟩))
      · rw [hg.1 _ (by omega)]; exact hE _ p (by omega) hp
      · have nxt : upd mabove n (nI i) (nI (an former m i)).toNatClampNeg = if m + 1 ≤ d then nI (an former (m + 1) i) else NONE := by
          rw [nI_cl (n := an former m i) (by omega), pk_un (by omega), ← ha _ (by omega)]
          by_cases e : m = d
          · rw [if_neg (by omega), e, h0]; exact hr
          · rw [if_pos (by omega)]
            exact (an_step hf (by omega) (hm m (by omega)).1 (by omega)).2
        rw [nxt]
        exact ih g' ⟨fun q hq => (e1 q hq).trans (hg.1 q hq), e2⟩
  · intro f p g hp hg ih
    have hx : vp_in (nI (16 * s + p)) 256 := vp_in_nI (by omega) (by omega)
    have hy : vp_in (nI (16 * n + p)) 32000 := vp_in_nI (by omega) (by omega)
    refine ff (nI_ge hp (by omega)) ?_
    rw [ixA, ixA, ixA]
    refine ⟨vp_in_nI (by omega) (by omega), nm ?_⟩
    rw [nI_cl (n := 16 * i + p) (by omega), nI_cl (n := 16 * s + p) (by omega), nI_cl (n := 16 * n + p) (by omega), hg.1 _ (by omega)]
    have hvp := hv p hp
    have nxt : ∀ v, EV (h p) v → ((∀ q, q < 16 * n → upd g (16 * n + p) v q = nodes q) ∧ ∀ p', p' < p + 1 → EV (h p') (upd g (16 * n + p) v (16 * n + p'))) := fun v hv' => by
      refine ⟨fun q hq => by rw [pk_un (by omega)]; exact hg.1 q hq, fun p' hp' => ?_⟩
      by_cases e : p' = p
      · rw [e, pk_us]; exact hv'
      · rw [pk_un (by omega)]; exact hg.2 p' (by omega)
    by_cases c : 0 ≤ nodes (16 * i + p)
    · rw [if_pos c] at hvp
      refine tt c ⟨hx, hx, hy, nm ?_⟩
      rw [nI_1 p]
      exact ih _ (nxt _ hvp)
    · rw [if_neg c] at hvp
      refine ff c ⟨hy, nm ?_⟩
      rw [nI_1 p]
      exact ih _ (nxt _ hvp)
theorem mayAt_spec {P i s : Nat} {nodes x tk nd cl : Nat → Int32} {post : Int32 → Prop} (hP : P ≤ 16) (hs : s < 16) (hi : i < 2000) (hx : ∀ p, p < P → EV (x p) (nodes (16 * i + p))) (htk : ∀ i, i < 256 → ∃ v : Nat, v ≤ 9 ∧ tk i = nI v) (hnd : ∀ i, i < 256 → ∃ v : Nat, v ≤ 9 ∧ nd i = nI v) (hcl : ∀ p, p < P → cl (16 * s + p) = 0) (h1 : PM P tk nd cl x s → post 1) (h0 : ¬ PM P tk nd cl x s → post 0) : w_X10_mayAt (nI P) nd nodes tk (nI s) (nI i) post := by
  refine pk_loop (fun n k (v : Int32) => w_X10_mayAt_L5 (nI s) (nI i) (nI P) nd nodes tk post (fun v12 _ => v12 &&& 1 = v12 ∧ post v12) n v (nI k)) (fun k v => fl (fun p => LT tk nd cl x s p) k v) P 0 1 (by omega) (fl_0 _) ?_ ?_
  · intro n v hg
    exact tt (nI_le (Nat.le_refl P) (by omega)) (fl_post hg h1 h0)
  · intro n k v hk hg ih
    have hy : vp_in (nI (16 * s + k)) 256 := vp_in_nI (by omega) (by omega)
    refine ff (nI_ge hk (by omega)) ?_
    rw [ixA, ixA]
    refine ⟨vp_in_nI (by omega) (by omega), nm (nm ?_)⟩
    rw [nI_cl (n := 16 * i + k) (by omega), nI_cl (n := 16 * s + k) (by omega)]
    refine ⟨fun c => nm ?_, fun c => ?_⟩
    · rw [nI_1]; exact ih _ (fl_keep hg c)
    · obtain ⟨a, ha, ea⟩ := htk (16 * s + k) (by omega)
      obtain ⟨b, hb, eb⟩ := hnd (16 * s + k) (by omega)
      rcases hx k hk with ⟨e1, e2⟩ | ⟨v', hv', e1, e2⟩
      · rw [e2]
        refine tt (by decide) (nm ?_)
        rw [nI_1]
        refine ih _ (fl_yes hg c ⟨?_, ?_, Or.inl (hcl k hk)⟩)
        · rw [e1, ea]; exact fun q => i_irr (i_trans q (end_max (by omega)))
        · rw [e1, eb]; exact fun q => i_irr (i_trans q (end_max (by omega)))
      · rw [e2]
        refine ff (nI_pos (by omega)) ⟨hy, ?_⟩
        by_cases c1 : nI v' < tk (16 * s + k)
        · refine tt c1 (nm ?_)
          rw [nI_1]; exact ih _ (fl_no (fun w => w.1 (by rw [e1]; exact c1)))
        refine ff c1 ⟨hy, ?_⟩
        by_cases c2 : nI v' < nd (16 * s + k)
        · refine tt c2 (nm ?_)
          rw [nI_1]; exact ih _ (fl_no (fun w => w.2.1 (by rw [e1]; exact c2)))
        refine ff c2 (nm ?_)
        rw [nI_1]; exact ih _ (fl_yes hg c ⟨by rw [e1]; exact c1, by rw [e1]; exact c2, Or.inl (hcl k hk)⟩)
theorem sameM_spec {P a b : Nat} {nodes x y : Nat → Int32} {post : Int32 → Prop} (hP : P ≤ 16) (ha : a < 2000) (hb : b < 2000) (hx : ∀ p, p < P → EV (x p) (nodes (16 * a + p))) (hy : ∀ p, p < P → EV (y p) (nodes (16 * b + p))) (h1 : (∀ p, p < P → x p = y p) → post 1) (h0 : (¬ ∀ p, p < P → x p = y p) → post 0) : w_X10_isSame (nI P) nodes (nI a) (nI b) post := by
  refine pk_loop (fun n i (v : Int32) => w_X10_isSame_L5 (nI a) (nI b) (nI P) nodes post (fun v12 _ => v12 &&& 1 = v12 ∧ post v12) n v (nI i)) (fun i v => fl (fun p => x p = y p) i v) P 0 1 (by omega) (fl_0 _) ?_ ?_
  · intro n v hg
    exact tt (nI_le (Nat.le_refl P) (by omega)) (fl_post hg h1 h0)
  · intro n i v hi hg ih
    refine ff (nI_ge hi (by omega)) ⟨fun c => nm ?_, fun c => ?_⟩
    · rw [nI_1]; exact ih _ (fl_keep hg c)
    · rw [ixA, ixA]
      refine ⟨vp_in_nI (by omega) (by omega), vp_in_nI (by omega) (by omega), ?_⟩
      rw [nI_cl (n := 16 * a + i) (by omega), nI_cl (n := 16 * b + i) (by omega)]
      have e := EV_inj (hx i hi) (hy i hi)
      by_cases d : nodes (16 * a + i) = nodes (16 * b + i)
      · refine nt d (nm ?_)
        rw [nI_1]; exact ih _ (fl_yes hg c (e.mpr d))
      · refine nf d (nm ?_)
        rw [nI_1]; exact ih _ (fl_no (fun w => d (e.mp w)))
theorem twice_spec {P n i : Nat} {nodes cells : Nat → Int32} {post : Int32 → Prop} (hP : P ≤ 16) (hi : i < n) (hn : n ≤ 2000) (hE : ∀ j p, j < n → p < P → EV (cells (j * P + p)) (nodes (16 * j + p))) (h1 : (∃ j, j < i ∧ ∀ p, p < P → cells (j * P + p) = cells (i * P + p)) → post 1) (h0 : (¬ ∃ j, j < i ∧ ∀ p, p < P → cells (j * P + p) = cells (i * P + p)) → post 0) : w_X10_isTwice (nI P) nodes (nI i) post := by
  refine pk_loop (fun f k (v : Int32) => w_X10_isTwice_L4 (nI i) (nI P) nodes post (fun v12 _ => v12 &&& 1 = v12 ∧ post v12) f v (nI k)) (fun k v => (v = 1 ∧ ∃ j, j < k ∧ ∀ p, p < P → cells (j * P + p) = cells (i * P + p)) ∨ (v = 0 ∧ ¬ ∃ j, j < k ∧ ∀ p, p < P → cells (j * P + p) = cells (i * P + p))) i 0 0 (by omega) (Or.inr ⟨rfl, fun ⟨j, hj, _⟩ => absurd hj (by omega)⟩) ?_ ?_
  · intro f v hg
    refine tt (nI_le (Nat.le_refl i) (by omega)) ?_
    rcases hg with ⟨rfl, q⟩ | ⟨rfl, q⟩
    · exact ⟨by decide, h1 q⟩
    · exact ⟨by decide, h0 q⟩
  · intro f k v hk hg ih
    refine ff (nI_ge hk (by omega)) ?_
    rcases hg with ⟨rfl, j, hj, q⟩ | ⟨rfl, q⟩
    · refine y1 (nm ?_)
      rw [nI_1]; exact ih _ (Or.inl ⟨rfl, j, by omega, q⟩)
    · refine y0 (sameM_spec hP (by omega) (by omega) (hE k · (by omega)) (hE i · (by omega)) (fun d => z1 (nm ?_)) (fun d => z0 (nm ?_)))
      · rw [nI_1]; exact ih _ (Or.inl ⟨rfl, k, by omega, d⟩)
      · rw [nI_1]; refine ih _ (Or.inr ⟨rfl, fun ⟨j, hj, w⟩ => ?_⟩)
        by_cases e : j = k
        · subst e; exact d w
        · exact q ⟨j, by omega, w⟩
theorem stepAbove_spec {S : Nat} {sk : Nat → Int32} {post : Int32 → Prop} (hS : S ≤ 16) (h0 : (∀ s, s < S → sk s ≤ 1) → post 0) (h1 : (¬ ∀ s, s < S → sk s ≤ 1) → post 1) : w_X5_hasStepAbove (nI S) sk 1 post := by
  refine pk_loop (fun n i (_ : Unit) => w_X5_hasStepAbove_L2 1 (nI S) sk post (fun _ => post 0) n (nI i)) (fun i _ => ∀ s, s < i → sk s ≤ 1) S 0 () (by omega) (fun s hs => absurd hs (by omega)) ?_ ?_
  · intro n _ hg
    exact tt (nI_le (Nat.le_refl S) (by omega)) (h0 hg)
  · intro n i _ hi hg ih
    refine ff (nI_ge hi (by omega)) ⟨vp_in_nI (by omega) (by omega), ?_⟩
    rw [nI_cl (n := i) (by omega)]
    by_cases c : sk i ≤ 1
    · refine tt c (nm ?_)
      rw [nI_1]
      refine ih () (fun s hs => ?_)
      by_cases e : s = i
      · subst e; exact c
      · exact hg s (by omega)
    · exact ff c (h1 (fun w => c (w i hi)))
theorem two_le {a : Int32} : (2 : Int32) ≤ a ↔ ¬ a ≤ 1 := by
  rw [Int32.le_iff_toInt_le, Int32.le_iff_toInt_le]
  have h1 : (1 : Int32).toInt = 1 := by decide
  have h2 : (2 : Int32).toInt = 2 := by decide
  omega
theorem plain_spec {P S : Nat} {pk sk tk pt nd cl wt gf tf pi hd : Nat → Int32} {co : Int32} {post : Int32 → Prop} (hN : cNet P S pk sk tk pt nd cl wt gf tf pi hd co) (h1 : co = 0 → (∀ s, s < S → sk s ≤ 1) → post 1) (h0 : ¬ (co = 0 ∧ ∀ s, s < S → sk s ≤ 1) → post 0) : w_X10_isPlainNet (nI P) (nI S) pk sk post := by
  have hS16 := hN.1.2
  refine hasColN hN (fun c => y0 ?_) (fun c => y1 ?_)
  · refine pk_loop (fun n i (v : Int32) => w_X10_isPlainNet_L15 (nI P) (nI S) pk sk post (fun v12 _ => v12 &&& 1 = v12 ∧ post v12) n v (nI i)) (fun i v => fl (fun s => sk s ≤ 1) i v) S 0 1 (by omega) (fl_0 _) ?_ ?_
    · intro n v hg
      exact tt (nI_le (Nat.le_refl S) (by omega)) (fl_post hg (h1 c) (fun q => h0 (fun w => q w.2)))
    · intro n i v hi hg ih
      refine ff (nI_ge hi (by omega)) ⟨fun c => nm ?_, fun c => ⟨vp_in_nI (by omega) (by omega), ?_⟩⟩
      · rw [nI_1]; exact ih _ (fl_keep hg c)
      · rw [nI_cl (n := i) (by omega)]
        by_cases d : sk i ≤ 1
        · refine ff (fun q => two_le.mp q d) (nm ?_)
          rw [nI_1]; exact ih _ (fl_yes hg c d)
        · refine tt (two_le.mpr d) (nm ?_)
          rw [nI_1]; exact ih _ (fl_no d)
  · refine pk_loop (fun n i (v : Int32) => w_X10_isPlainNet_L15 (nI P) (nI S) pk sk post (fun v12 _ => v12 &&& 1 = v12 ∧ post v12) n v (nI i)) (fun i v => v = 0) S 0 0 (by omega) rfl ?_ ?_
    · intro n v hg
      rw [hg]
      exact tt (nI_le (Nat.le_refl S) (by omega)) ⟨by decide, h0 (fun w => c w.1)⟩
    · intro n i v hi hg ih
      rw [hg]
      refine ff (nI_ge hi (by omega)) (z0 (nm ?_))
      rw [nI_1]; exact ih _ rfl
theorem treeC {P : Nat} {v1 hT st tS : Int32} {ab colour has lf nd pt so sp tk f : Nat → Int32} {post : Int32 → Int32 → Int32 → (Nat → Int32) → (Nat → Int32) → (Nat → Int32) → (Nat → Int32) → Prop} {K : Int32 → (Nat → Int32) → Prop} (hP : P ≤ 16) (h : ∀ z g, (∀ p, p < P → g p = has p) → K z g) : ∃ n : Nat, w_X10_tree_L26 v1 hT (nI P) st tS ab colour has lf nd pt so sp tk post K n 0 f := by
  refine pk_loop (fun n i (g : Nat → Int32) => w_X10_tree_L26 v1 hT (nI P) st tS ab colour has lf nd pt so sp tk post K n (nI i) g) (fun i g => ∀ p, p < i → g p = has p) P 0 f (by omega) (fun p hp => absurd hp (by omega)) ?_ ?_
  · intro n g hg
    exact tt (nI_le (Nat.le_refl P) (by omega)) (h _ g hg)
  · intro n i g hi hg ih
    refine ff (nI_ge hi (by omega)) ⟨vp_in_nI (by omega) (by omega), vp_in_nI (by omega) (by omega), nm ?_⟩
    rw [nI_1, nI_cl (n := i) (by omega)]
    refine ih _ (fun p hp => ?_)
    by_cases e : p = i
    · rw [e, pk_us]
    · rw [pk_un e]; exact hg p (by omega)
