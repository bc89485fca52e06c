/-! ===== the reference's spreading ===== -/
theorem nar1 : vp_nar .boolean (1 : Int32) = 1 := by decide
theorem nar0 : vp_nar .boolean (0 : Int32) = 0 := by decide
section SP
variable {n S : Nat} {next : Nat → Int32} {E : Nat → Nat → Prop} {Z : Nat → Prop}
def BL (n : Nat) (E : Nat → Nat → Prop) (Z : Nat → Prop) (leads : Nat → Int32) : Prop := (∀ j, j < n → leads j = 0 ∨ leads j = 1) ∧ (∀ j, j < n → leads j = 1 → RC n E Z j) ∧ (∀ j, j < n → Z j → leads j = 1)
/-- row i shows nothing new -/
def RW (n S : Nat) (next leads : Nat → Int32) (i m : Nat) : Prop := leads i = 1 ∨ ∀ t, t < m → ∀ a : Nat, a < n → next (16 * i + t) = nI a → leads a = 0
theorem rowM {i : Nat} {v : Int32} {l0 lv : Nat → Int32} {post : (Nat → Int32) → Prop} {K : Int32 → Int32 → (Nat → Int32) → Prop} (hn : n ≤ 8000) (hS : S ≤ 16) (hi : i < n) (hr : ∀ i t, i < n → t < S → next (16 * i + t) = NONE ∨ ∃ a : Nat, a < n ∧ next (16 * i + t) = nI a) (hE : ∀ i a, i < n → a < n → (E i a ↔ ∃ t, t < S ∧ next (16 * i + t) = nI a))
    (h0 : BL n E Z lv ∧ ((v = 0 ∧ ∀ j, j < n → lv j = l0 j) ∨ (v = 1 ∧ cL l0 n < cL lv n)))
    (h : ∀ v' x lv', BL n E Z lv' → ((v' = 0 ∧ v = 0 ∧ (∀ j, j < n → lv' j = l0 j) ∧ RW n S next l0 i S) ∨ (v' = 1 ∧ cL l0 n < cL lv' n)) → K v' x lv') : ∃ f : Nat, w_X10_spread_L21 (nI i) (nI n) (nI S) next post K f v (0 : Int32) lv := by
  have hin : vp_in (nI i) 8000 := vp_in_nI (by omega) (by omega)
  refine pk_loop (σ := Int32 × (Nat → Int32)) (fun f s g => w_X10_spread_L21 (nI i) (nI n) (nI S) next post K f g.1 (nI s) g.2) (fun s g => BL n E Z g.2 ∧ ((g.1 = 0 ∧ v = 0 ∧ (∀ j, j < n → g.2 j = l0 j) ∧ RW n S next l0 i s) ∨ (g.1 = 1 ∧ cL l0 n < cL g.2 n))) S 0 (v, lv) (by omega) ⟨h0.1, h0.2.imp (fun q => ⟨q.1, q.1, q.2, Or.inr (fun t ht => absurd ht (by omega))⟩) id⟩ ?_ ?_
  · intro f g hg
    exact tt (nI_le (Nat.le_refl S) (by omega)) (h _ _ _ hg.1 hg.2)
  · intro f s g hs hg ih
    obtain ⟨hB, hd⟩ := hg
    refine ff (nI_ge hs (by omega)) ⟨hin, ?_⟩
    rw [nI_cl (n := i) (by omega)]
    rcases hB.1 i hi with c | c
    · refine nt c ?_
      rw [ixA]
      refine ⟨vp_in_nI (by omega) (by omega), nm ?_⟩
      rw [nI_cl (n := 16 * i + s) (by omega)]
      have keep : (∀ a : Nat, a < n → next (16 * i + s) = nI a → g.2 a = 0) → ((g.1 = 0 ∧ v = 0 ∧ (∀ j, j < n → g.2 j = l0 j) ∧ RW n S next l0 i (s + 1)) ∨ (g.1 = 1 ∧ cL l0 n < cL g.2 n)) := by
        intro hq
        rcases hd with ⟨d1, d1', d2, d3⟩ | d
        · refine Or.inl ⟨d1, d1', d2, ?_⟩
          rcases d3 with d3 | d3
          · exact Or.inl d3
          · refine Or.inr (fun t ht a ha et => ?_)
            by_cases e : t = s
            · subst e; rw [← d2 a ha]; exact hq a ha et
            · exact d3 t (by omega) a ha et
        · exact Or.inr d
      rcases hr i s hi hs with e | ⟨a, ha, e⟩
      · refine tt e (nm ?_)
        rw [nI_1]
        exact ih g ⟨hB, keep (fun a ha q => absurd (q.symm.trans e) (nI_none (by omega)))⟩
      · rw [e]
        refine ff (nI_none (by omega)) ⟨vp_in_nI (by omega) (by omega), ?_⟩
        rw [nI_cl (n := a) (by omega)]
        rcases hB.1 a ha with ca | ca
        · refine tt ca (nm ?_)
          rw [nI_1]
          exact ih g ⟨hB, keep (fun b hb q => by have := nI_inj (by omega) (by omega) (q.symm.trans e); rw [this]; exact ca)⟩
        · refine ff (by rw [ca]; decide) ⟨hin, nm ?_⟩
          rw [nI_1, nar1]
          have hcs := cL_set c n hi
          refine ih (1, upd g.2 i 1) ⟨⟨fun j hj => ?_, fun j hj q => ?_, fun j hj q => ?_⟩, Or.inr ⟨rfl, ?_⟩⟩
          · show upd g.2 i 1 j = 0 ∨ upd g.2 i 1 j = 1
            by_cases ej : j = i
            · rw [ej, pk_us]; exact Or.inr rfl
            · rw [pk_un ej]; exact hB.1 j hj
          · by_cases ej : j = i
            · rw [ej]; exact RC_step ha ((hE i a hi ha).mpr ⟨s, hs, e⟩) (hB.2.1 a ha ca)
            · have q : upd g.2 i 1 j = 1 := q
              rw [pk_un ej] at q; exact hB.2.1 j hj q
          · show upd g.2 i 1 j = 1
            by_cases ej : j = i
            · rw [ej, pk_us]
            · rw [pk_un ej]; exact hB.2.2 j hj q
          · show cL l0 n < cL (upd g.2 i 1) n
            rw [hcs]
            rcases hd with ⟨-, -, d2, -⟩ | d
            · rw [cL_congr n d2]; omega
            · omega
    · refine nf (by rw [c]; decide) (h _ _ _ hB ?_)
      rcases hd with ⟨d1, d1', d2, d3⟩ | d
      · exact Or.inl ⟨d1, d1', d2, Or.inl (by rw [← d2 i hi]; exact c)⟩
      · exact Or.inr d
theorem passM {l0 : Nat → Int32} {post : (Nat → Int32) → Prop} {K : Int32 → Int32 → (Nat → Int32) → Prop} (hn : n ≤ 8000) (hS : S ≤ 16) (hr : ∀ i t, i < n → t < S → next (16 * i + t) = NONE ∨ ∃ a : Nat, a < n ∧ next (16 * i + t) = nI a) (hE : ∀ i a, i < n → a < n → (E i a ↔ ∃ t, t < S ∧ next (16 * i + t) = nI a)) (h0 : BL n E Z l0)
    (h : ∀ v' x lv', BL n E Z lv' → ((v' = 0 ∧ (∀ j, j < n → lv' j = l0 j) ∧ ∀ i, i < n → RW n S next l0 i S) ∨ (v' = 1 ∧ cL l0 n < cL lv' n)) → K v' x lv') : ∃ f : Nat, w_X10_spread_L15 (nI n) (nI S) next post K f (0 : Int32) (nI n + (-1)) l0 := by
  refine pk_loop (σ := Int32 × (Nat → Int32)) (fun f m g => w_X10_spread_L15 (nI n) (nI S) next post K f g.1 (nI (n - m) + (-1)) g.2) (fun m g => BL n E Z g.2 ∧ ((g.1 = 0 ∧ (∀ j, j < n → g.2 j = l0 j) ∧ ∀ i, n - m ≤ i → i < n → RW n S next l0 i S) ∨ (g.1 = 1 ∧ cL l0 n < cL g.2 n))) n 0 (0, l0) (by omega) ⟨h0, Or.inl ⟨rfl, fun j _ => rfl, fun i h1 h2 => absurd h1 (by omega)⟩⟩ ?_ ?_
  · intro f g hg
    rw [Nat.sub_self]
    exact tt (by decide) (h _ _ _ hg.1 (hg.2.imp (fun q => ⟨q.1, q.2.1, fun i hi => q.2.2 i (by omega) hi⟩) id))
  · intro f m g hm hg ih
    obtain ⟨hB, hd⟩ := hg
    rw [sb_m1 (show 0 < n - m by omega)]
    refine ff (nI_pos (by omega)) (rowM (l0 := l0) hn hS (by omega) hr hE ⟨hB, hd.imp (fun q => ⟨q.1, q.2.1⟩) id⟩ (fun v' x lv' hB' hd' => nm ?_))
    rw [show n - m - 1 = n - (m + 1) by omega]
    refine ih (v', lv') ⟨hB', ?_⟩
    rcases hd' with ⟨d1, d1', d2, d3⟩ | d
    · rcases hd with ⟨e1, e2, e3⟩ | ⟨e1, -⟩
      · refine Or.inl ⟨d1, d2, fun i h1 h2 => ?_⟩
        by_cases e : i = n - m - 1
        · rw [e]; exact d3
        · exact e3 i (by omega) h2
      · rw [d1'] at e1; exact absurd e1 (by decide)
    · exact Or.inr d
theorem spread_spec {leads : Nat → Int32} {post : (Nat → Int32) → Prop} (hn : n ≤ 8000) (hS : S ≤ 16) (hr : ∀ i t, i < n → t < S → next (16 * i + t) = NONE ∨ ∃ a : Nat, a < n ∧ next (16 * i + t) = nI a) (hE : ∀ i a, i < n → a < n → (E i a ↔ ∃ t, t < S ∧ next (16 * i + t) = nI a)) (hB : BL n E Z leads)
    (h : ∀ lv', (∀ j, j < n → lv' j = 0 ∨ lv' j = 1) → (∀ j, j < n → (lv' j = 1 ↔ RC n E Z j)) → post lv') : w_X10_spread (nI n) (nI S) leads next post := by
  have key : ∀ d (lv : Nat → Int32), BL n E Z lv → n ≤ cL lv n + d → w_X10_spread_L2 (nI n) (nI S) next post (fun _ s29 => post s29) (d + 2) (1 : Int32) lv := by
    intro d
    induction d with
    | zero =>
      intro lv hB hc
      refine ff (by decide) (nm ?_)
      rw [Int32.sub_eq_add_neg]
      refine passM hn hS hr hE hB (fun v' x lv' hB' hd => ?_)
      rcases hd with ⟨d1, d2, d3⟩ | ⟨-, d⟩
      · refine ⟨fun _ => h lv' hB'.1 (fun j hj => ⟨hB'.2.1 j hj, RC_min (A := fun j => lv' j = 1) hB'.2.2 (fun i a hi ha he hl => ?_) j hj⟩), fun q => absurd d1 q⟩
        obtain ⟨t, ht, et⟩ := (hE i a hi ha).mp he
        rcases d3 i hi with q | q
        · rw [d2 i hi]; exact q
        · have := q t ht a ha et
          rw [← d2 a ha, hl] at this
          exact absurd this (by decide)
      · have := cD_le (fun j => lv' j = 1) n
        have : cL lv' n ≤ n := this
        omega
    | succ d ih =>
      intro lv hB hc
      refine ff (by decide) (nm ?_)
      rw [Int32.sub_eq_add_neg]
      refine passM hn hS hr hE hB (fun v' x lv' hB' hd => ?_)
      rcases hd with ⟨d1, d2, d3⟩ | ⟨d1, dd⟩
      · refine ⟨fun _ => h lv' hB'.1 (fun j hj => ⟨hB'.2.1 j hj, RC_min (A := fun j => lv' j = 1) hB'.2.2 (fun i a hi ha he hl => ?_) j hj⟩), fun q => absurd d1 q⟩
        obtain ⟨t, ht, et⟩ := (hE i a hi ha).mp he
        rcases d3 i hi with q | q
        · rw [d2 i hi]; exact q
        · have := q t ht a ha et
          rw [← d2 a ha, hl] at this
          exact absurd this (by decide)
      · rw [d1]
        exact ih lv' hB' (by omega)
  exact ⟨n + 2, key n leads hB (by omega)⟩
theorem leastOut_spec {A : Nat → Prop} {lv : Nat → Int32} {post : Int32 → Prop} (hn : n ≤ 8000) (h1 : ∀ j, j < n → lv j = 0 ∨ lv j = 1) (h2 : ∀ j, j < n → (lv j = 1 ↔ A j)) (h : ∀ r, LO n A r → post r) : w_X10_leastOut (nI n) lv post := by
  refine pk_loop (fun f i (_ : Unit) => w_X10_leastOut_L2 (nI n) lv post (fun _ => post (-2000000005 : Int32)) f (nI i)) (fun i _ => ∀ j, j < i → A j) n 0 () (by omega) (fun j hj => absurd hj (by omega)) ?_ ?_
  · intro f _ hg
    exact tt (nI_le (Nat.le_refl n) (by omega)) (h _ (Or.inr ⟨hg, rfl⟩))
  · intro f i _ hi hg ih
    refine ff (nI_ge hi (by omega)) ⟨vp_in_nI (by omega) (by omega), ?_⟩
    rw [nI_cl (n := i) (by omega)]
    rcases h1 i hi with e | e
    · exact nt e (h _ (Or.inl ⟨i, hi, fun q => by rw [(h2 i hi).mpr q] at e; exact absurd e (by decide), hg, rfl⟩))
    · refine nf (by rw [e]; decide) (nm ?_)
      rw [nI_1]
      refine ih () (fun j hj => ?_)
      by_cases ej : j = i
      · rw [ej]; exact (h2 i hi).mp e
      · exact hg j (by omega)
theorem BL_of {g : Nat → Int32} (hg : ∀ j, j < n → (g j = 1 ∧ Z j) ∨ (g j = 0 ∧ ¬ Z j)) : BL n E Z g := by
  refine ⟨fun j hj => ?_, fun j hj e => ?_, fun j hj e => ?_⟩
  · rcases hg j hj with e | e
    · exact Or.inr e.1
    · exact Or.inl e.1
  · rcases hg j hj with e' | e'
    · exact RC_z e'.2
    · exact absurd (e'.1.symm.trans e) (by decide)
  · rcases hg j hj with e' | e'
    · exact e'.1
    · exact absurd e e'.2
theorem rows_of {nexts : Nat → Int32} (hr : ∀ i t, i < n → t < S → nexts (i * S + t) = NONE ∨ ∃ a : Nat, a < n ∧ nexts (i * S + t) = nI a) : ∀ e, e < n * S → nexts e = NONE ∨ ∃ a : Nat, a < n ∧ nexts e = nI a := fun e he => by
  have hS0 : 0 < S := by
    rcases Nat.eq_zero_or_pos S with z | z
    · rw [z, Nat.mul_zero] at he; omega
    · exact z
  have := hr (e / S) (e % S) (by rw [Nat.div_lt_iff_lt_mul hS0]; exact he) (Nat.mod_lt _ hS0)
  have hed : e / S * S + e % S = e := by rw [Nat.mul_comm]; exact Nat.div_add_mod e S
  rw [hed] at this; exact this
/-- the reference: the least marking that does not lead to one -/
theorem notTo_spec {T : Int32} {leads : Nat → Int32} {post : Int32 → (Nat → Int32) → Prop} (hn : n ≤ 8000) (hS : S ≤ 16) (hr : ∀ i t, i < n → t < S → next (16 * i + t) = NONE ∨ ∃ a : Nat, a < n ∧ next (16 * i + t) = nI a) (hE : ∀ i a, i < n → a < n → (E i a ↔ ∃ t, t < S ∧ next (16 * i + t) = nI a)) (hZ : ∀ i, i < n → (Z i ↔ nI i = T)) (h : ∀ r lv', LO n (RC n E Z) r → post r lv') : w_X10_leastNotTo (nI n) (nI S) leads next T post := by
  refine pk_loop (fun f i (g : Nat → Int32) => w_X10_leastNotTo_L2 T (nI n) (nI S) next post _ f (nI i) g) (fun i g => ∀ j, j < i → (g j = 1 ∧ Z j) ∨ (g j = 0 ∧ ¬ Z j)) n 0 leads (by omega) (fun j hj => absurd hj (by omega)) ?_ ?_
  · intro f g hg
    refine tt (nI_le (Nat.le_refl n) (by omega)) (spread_spec (Z := Z) hn hS hr hE (BL_of hg) (fun lv' l1 l2 => leastOut_spec hn l1 l2 (fun r hr => h r lv' hr)))
  · intro f i g hi hg ih
    have hin : vp_in (nI i) 8000 := vp_in_nI (by omega) (by omega)
    refine ff (nI_ge hi (by omega)) ?_
    by_cases c : nI i = T
    · refine nt c ⟨hin, nm ?_⟩
      rw [nI_1, nI_cl (n := i) (by omega), nar1]
      refine ih _ (fun j hj => ?_)
      by_cases e : j = i
      · rw [e, pk_us]; exact Or.inl ⟨rfl, (hZ i hi).mpr c⟩
      · rw [pk_un e]; exact hg j (by omega)
    · refine nf c ⟨hin, nm ?_⟩
      rw [nI_1, nI_cl (n := i) (by omega), nar0]
      refine ih _ (fun j hj => ?_)
      by_cases e : j = i
      · rw [e, pk_us]; exact Or.inr ⟨rfl, fun q => c ((hZ i hi).mp q)⟩
      · rw [pk_un e]; exact hg j (by omega)
theorem stuckM {v1 : Nat} {hfl : Int32} {leads : Nat → Int32} {post : Int32 → (Nat → Int32) → Prop} {K : Int32 → (Nat → Int32) → Prop} (hn : n ≤ 8000) (hv : v1 < 16) (hZ : ∀ i, i < n → (Z i ↔ ¬ next (16 * i + v1) = NONE)) (h : ∀ z g, (∀ j, j < n → (g j = 1 ∧ Z j) ∨ (g j = 0 ∧ ¬ Z j)) → K z g) : ∃ f : Nat, w_X10_stuck_L23 (nI v1) (nI n) hfl (nI S) next post K f 0 leads := by
  refine pk_loop (fun f i (g : Nat → Int32) => w_X10_stuck_L23 (nI v1) (nI n) hfl (nI S) next post K f (nI i) g) (fun i g => ∀ j, j < i → (g j = 1 ∧ Z j) ∨ (g j = 0 ∧ ¬ Z j)) n 0 leads (by omega) (fun j hj => absurd hj (by omega)) ?_ ?_
  · intro f g hg
    exact tt (nI_le (Nat.le_refl n) (by omega)) (h _ g hg)
  · intro f i g hi hg ih
    have hin : vp_in (nI i) 8000 := vp_in_nI (by omega) (by omega)
    refine ff (nI_ge hi (by omega)) ?_
    rw [ixA]
    refine ⟨vp_in_nI (by omega) (by omega), ?_⟩
    rw [nI_cl (n := 16 * i + v1) (by omega)]
    by_cases c : next (16 * i + v1) = NONE
    · refine tt c ⟨hin, nm ?_⟩
      rw [nI_1, nI_cl (n := i) (by omega), nar0]
      refine ih _ (fun j hj => ?_)
      by_cases e : j = i
      · rw [e, pk_us]; exact Or.inr ⟨rfl, fun q => (hZ i hi).mp q c⟩
      · rw [pk_un e]; exact hg j (by omega)
    · refine ff c ⟨hin, nm ?_⟩
      rw [nI_1, nI_cl (n := i) (by omega), nar1]
      refine ih _ (fun j hj => ?_)
      by_cases e : j = i
      · rw [e, pk_us]; exact Or.inl ⟨rfl, (hZ i hi).mpr c⟩
      · rw [pk_un e]; exact hg j (by omega)
end SP
/-- the class: from the markings at which a step goes -/
theorem without_spec {n S v1 : Nat} {t : Int32} {firstIn leads nexts otherIn queue : Nat → Int32} {E : Nat → Nat → Prop} {Z : Nat → Prop} {post : Int32 → Int32 → (Nat → Int32) → (Nat → Int32) → (Nat → Int32) → (Nat → Int32) → Prop} (hn : n ≤ 8000) (hS : S ≤ 16) (hv : v1 < S) (hr : ∀ i t, i < n → t < S → nexts (i * S + t) = NONE ∨ ∃ a : Nat, a < n ∧ nexts (i * S + t) = nI a) (hE : ∀ i a, i < n → a < n → (E i a ↔ ∃ t, t < S ∧ nexts (i * S + t) = nI a)) (hZ : ∀ i, i < n → (Z i ↔ ¬ nexts (i * S + v1) = NONE)) (ht : t = 0 ∨ (t = 1 ∧ tnd S n nexts firstIn otherIn))
    (h : ∀ r g o l q, tnd S n nexts g o → LO n (RC n E Z) r → post r 1 g l o q) : w_X1_leastWithout (nI n) (nI S) t firstIn leads nexts otherIn queue (nI v1) post := by
  refine turn_spec hn hS (rows_of hr) ht (fun g o htn => ?_)
  refine pk_loop (σ := Nat × (Nat → Int32) × (Nat → Int32)) (fun f i x => w_X1_leastWithout_L8 (nI v1) (nI n) (nI S) 1 g nexts o post _ f (nI x.1) (nI i) x.2.1 x.2.2) (fun i x => x.1 = cL x.2.1 i ∧ (∀ j, j < i → (x.2.1 j = 1 ∧ Z j) ∨ (x.2.1 j = 0 ∧ ¬ Z j)) ∧ (∀ k, k < x.1 → ∃ j : Nat, j < i ∧ x.2.2 k = nI j ∧ x.2.1 j = 1) ∧ ∀ j, j < i → x.2.1 j = 1 → ∃ k, k < x.1 ∧ x.2.2 k = nI j) n 0 (0, leads, queue) (by omega) ⟨rfl, fun j hj => absurd hj (by omega), fun k hk => absurd hk (by show ¬ k < 0; omega), fun j hj => absurd hj (by omega)⟩ ?_ ?_
  · intro f x hx
    obtain ⟨c, l, q⟩ := x
    obtain ⟨x1, x2, x3, x4⟩ := hx
    refine tt (nI_le (Nat.le_refl n) (by omega)) (lnl_spec (E := E) (Z := Z) hn hS hE htn ⟨fun j hj => ?_, x1, x3, x4, fun j hj e => ?_, fun j hj e => ?_⟩ (fun r l' q' hr' => h _ _ _ _ _ htn hr'))
    · rcases x2 j hj with e | e
      · exact Or.inr e.1
      · exact Or.inl e.1
    · rcases x2 j hj with e' | e'
      · exact RC_z e'.2
      · exact absurd (e'.1.symm.trans e) (by decide)
    · rcases x2 j hj with e' | e'
      · exact e'.1
      · exact absurd e e'.2
  · intro f i x hi hx ih
    obtain ⟨c, l, q⟩ := x
    obtain ⟨x1, x2, x3, x4⟩ := hx
    dsimp only at x1 x2 x3 x4 ih ⊢
    have hcle : c ≤ i := by rw [x1]; exact cD_le _ i
    have hin : vp_in (nI i) 8000 := vp_in_nI (by omega) (by omega)
    have hx' := mul_in (n := 8000) (show i < 8000 by omega) hv hS
    refine ff (nI_ge hi (by omega)) ?_
    unfold w_X1_leadsFrom
    rw [ixB]
    refine ⟨vp_in_nI (by omega) (by omega), ?_⟩
    rw [nI_cl (n := i * S + v1) (by omega), nI_cl (n := i) (by omega), pk_us, pk_us]
    have lc : ∀ w : Int32, cL (upd l i w) i = cL l i := fun w => cL_congr i (fun j hj => pk_un (by omega))
    rcases hr i v1 hi hv with e | ⟨a, ha, e⟩
    · rw [e]
      refine tt none_neg ⟨hin, hin, nf (by decide) (nm ?_)⟩
      rw [nI_1]
      refine ih (c, upd l i 0, q) ⟨?_, fun j hj => ?_, fun k hk => ?_, fun j hj w => ?_⟩
      · show c = cL (upd l i 0) i + (if upd l i 0 i = 1 then 1 else 0)
        rw [lc, pk_us, if_neg (by decide), x1, Nat.add_zero]
      · show (upd l i 0 j = 1 ∧ Z j) ∨ (upd l i 0 j = 0 ∧ ¬ Z j)
        by_cases ej : j = i
        · rw [ej, pk_us]; exact Or.inr ⟨rfl, fun w => (hZ i hi).mp w e⟩
        · rw [pk_un ej]; exact x2 j (by omega)
      · obtain ⟨j, j1, j2, j3⟩ := x3 k hk
        exact ⟨j, by omega, j2, by show upd l i 0 j = 1; rw [pk_un (by omega)]; exact j3⟩
      · have w : upd l i 0 j = 1 := w
        by_cases ej : j = i
        · rw [ej, pk_us] at w; exact absurd w (by decide)
        · rw [pk_un ej] at w; exact x4 j (by omega) w
    · rw [e]
      refine ff (nI_pos (by omega)) ⟨hin, hin, nt rfl ⟨vp_in_nI (by omega) (by omega), nm (nm ?_)⟩⟩
      rw [nI_1, nI_1, nI_cl (n := c) (by omega)]
      refine ih (c + 1, upd l i 1, upd q c (nI i)) ⟨?_, fun j hj => ?_, fun k hk => ?_, fun j hj w => ?_⟩
      · show c + 1 = cL (upd l i 1) i + (if upd l i 1 i = 1 then 1 else 0)
        rw [lc, pk_us, if_pos rfl, x1]
      · show (upd l i 1 j = 1 ∧ Z j) ∨ (upd l i 1 j = 0 ∧ ¬ Z j)
        by_cases ej : j = i
        · rw [ej, pk_us]; exact Or.inl ⟨rfl, (hZ i hi).mpr (fun w => nI_none (by omega) (e.symm.trans w))⟩
        · rw [pk_un ej]; exact x2 j (by omega)
      · show ∃ j : Nat, j < i + 1 ∧ upd q c (nI i) k = nI j ∧ upd l i 1 j = 1
        have hk : k < c + 1 := hk
        by_cases ek : k = c
        · rw [ek, pk_us]; exact ⟨i, by omega, rfl, pk_us⟩
        · rw [pk_un ek]
          obtain ⟨j, j1, j2, j3⟩ := x3 k (by omega)
          exact ⟨j, by omega, j2, by rw [pk_un (by omega)]; exact j3⟩
      · show ∃ k, k < c + 1 ∧ upd q c (nI i) k = nI j
        have w : upd l i 1 j = 1 := w
        by_cases ej : j = i
        · rw [ej]; exact ⟨c, by omega, pk_us⟩
        · rw [pk_un ej] at w
          obtain ⟨k, k1, k2⟩ := x4 j (by omega) w
          exact ⟨k, by omega, by rw [pk_un (by omega)]; exact k2⟩
/-- the class: the least that does not lead to one -/
theorem astray_spec {n S v1 : Nat} {t : Int32} {firstIn leads nexts otherIn queue : Nat → Int32} {E : Nat → Nat → Prop} {Z : Nat → Prop} {post : Int32 → Int32 → (Nat → Int32) → (Nat → Int32) → (Nat → Int32) → (Nat → Int32) → Prop} (hn : n ≤ 8000) (hS : S ≤ 16) (hv : v1 < n) (hr : ∀ i t, i < n → t < S → nexts (i * S + t) = NONE ∨ ∃ a : Nat, a < n ∧ nexts (i * S + t) = nI a) (hE : ∀ i a, i < n → a < n → (E i a ↔ ∃ t, t < S ∧ nexts (i * S + t) = nI a)) (hZ : ∀ i, i < n → (Z i ↔ i = v1)) (ht : t = 0 ∨ (t = 1 ∧ tnd S n nexts firstIn otherIn))
    (h : ∀ r g o l q, tnd S n nexts g o → LO n (RC n E Z) r → post r 1 g l o q) : w_X1_leastAstray (nI n) (nI S) t firstIn leads nexts otherIn queue (nI v1) post := by
  refine turn_spec hn hS (rows_of hr) ht (fun g o htn => ?_)
  refine pk_loop (fun f i (l : Nat → Int32) => w_X1_leastAstray_L6 (nI v1) (nI n) (nI S) 1 g nexts o queue post _ f (nI i) l) (fun i l => ∀ j, j < i → l j = 0) n 0 leads (by omega) (fun j hj => absurd hj (by omega)) ?_ ?_
  · intro f l hl
    refine tt (nI_le (Nat.le_refl n) (by omega)) ⟨vp_in_nI (by omega) (by omega), vp_in_nI (n := 0) (by omega) (by omega), ?_⟩
    rw [nI_cl (n := v1) (by omega), sb_cl0]
    have l1 : ∀ j, j < n → upd l v1 1 j = 1 → j = v1 := fun j hj w => by
      by_cases e : j = v1
      · exact e
      · rw [pk_un e, hl j hj] at w; exact absurd w (by decide)
    refine lnl_spec (c := 1) (E := E) (Z := Z) hn hS hE htn ⟨fun j hj => ?_, ?_, fun k hk => ?_, fun j hj w => ?_, fun j hj w => ?_, fun j hj w => ?_⟩ (fun r l' q' hr' => h _ _ _ _ _ htn hr')
    · by_cases e : j = v1
      · rw [e, pk_us]; exact Or.inr rfl
      · rw [pk_un e]; exact Or.inl (hl j hj)
    · rw [cL_set (hl v1 hv) n hv, cL_all n hl]
    · have : k = 0 := by omega
      subst this
      exact ⟨v1, hv, pk_us, pk_us⟩
    · rw [l1 j hj w]; exact ⟨0, by omega, pk_us⟩
    · exact RC_z ((hZ j hj).mpr (l1 j hj w))
    · rw [(hZ j hj).mp w, pk_us]
  · intro f i l hi hl ih
    refine ff (nI_ge hi (by omega)) ⟨vp_in_nI (by omega) (by omega), nm ?_⟩
    rw [nI_1, nI_cl (n := i) (by omega)]
    refine ih _ (fun j hj => ?_)
    by_cases e : j = i
    · rw [e, pk_us]
    · rw [pk_un e]; exact hl j (by omega)
theorem p_32 : St_32 Inw := by
  intro XI XA XL MI MA ML hI a1
  obtain ⟨P, S, hq, hN, hW, hPa, hH, hg, hF, hT, hb1, hb2, hs⟩ := id hI
  have hS16 : S ≤ 16 := hN.1.2
  have hno : ∀ y4 y6 y8, Inw (va_up XI 19 (XI 19)) (va_up (va_up (va_up (va_up XA 31 (XA 31)) 33 y4) 35 (XA 35)) 36 y6) XL MI (va_up MA 15 y8) ML := fun y4 y6 y8 => by
    have e : ∀ (f g : Nat → Int32) , va_up (va_up (va_up (va_up XA 31 (XA 31)) 33 f) 35 (XA 35)) 36 g = va_up (va_up XA 33 f) 36 g := fun f g => by
      rw [up_same]
      congr 1
      exact up_same (va_up XA 33 f) 35
    rw [e, up_same]
    exact ⟨P, S, hq, hN, hW, hPa, hH, hg, hF, hT, hb1, hb2, hs⟩
  unfold ls_32 w_X9_stuck w_X10_stuck
  rw [hq.2.2.1, hq.2.2.2.1]
  rcases ix3 a1 S (by omega) with h | ⟨s, hs', rfl, h1, h2⟩
  · exact hasStep_no h (y0 (isStep_no h (y0 ⟨rfl, hno _ _ _⟩)))
  refine hasStep_yes h1 h2 (y1 ?_)
  rcases id hF with ⟨f1, f2, f3⟩ | ⟨f1, f2, n, f3, f4, f5, f6, f7⟩
  · rw [f1, f2]
    exact tt rfl (isStep_yes h1 h2 (y1 (nt rfl ⟨rfl, hno _ _ _⟩)))
  rw [f1, f2, f3, f4, f6]
  obtain ⟨r1, r2, r3, r4, r5, r6, r7, r8, r9⟩ := id f7
  refine ff (by decide) (without_spec (E := fun i a => ∃ t, t < S ∧ XA 34 (i * S + t) = nI a) (Z := fun i => ¬ XA 34 (i * S + s) = NONE) (by omega) hS16 hs' (fun i t hi ht => (r3 i t hi ht).2) (fun i a hi ha => Iff.rfl) (fun i hi => Iff.rfl) r9 (fun r g o l q htn hr => ?_))
  refine isStep_yes h1 h2 (y1 (nf (by decide) (stuckM (Z := fun i => ¬ XA 34 (i * S + s) = NONE) (by omega) (by omega) (fun i hi => by rw [(r3 i s hi hs').1]) (fun z g' hg' => ?_))))
  refine spread_spec (E := fun i a => ∃ t, t < S ∧ XA 34 (i * S + t) = nI a) (Z := fun i => ¬ XA 34 (i * S + s) = NONE) (by omega) hS16 (fun i t hi ht => by rw [← (r3 i t hi ht).1]; exact (r3 i t hi ht).2) (fun i a hi ha => ?_) (BL_of hg') (fun lv' l1 l2 => leastOut_spec (by omega) l1 l2 (fun r' hr' => ⟨LO_uniq hr hr', ?_⟩))
  · exact ⟨fun ⟨t, ht, e⟩ => ⟨t, ht, by rw [← (r3 i t hi ht).1]; exact e⟩, fun ⟨t, ht, e⟩ => ⟨t, ht, by rw [(r3 i t hi ht).1]; exact e⟩⟩
  · exact ⟨P, S, hq, hN, hW, hPa, hH, hg, Or.inr ⟨f1, f2, n, f3, f4, f5, f6, r1, r2, r3, r4, r5, r6, r7, r8, Or.inr ⟨rfl, htn⟩⟩, hT, hb1, hb2, hs⟩
theorem p_33 : St_33 Inw := by
  intro XI XA XL MI MA ML hI a1
  obtain ⟨P, S, hq, hN, hW, hPa, hH, hg, hF, hT, hb1, hb2, hs⟩ := id hI
  have hS16 : S ≤ 16 := hN.1.2
  have hno : ∀ y4 y6 y8, Inw (va_up XI 19 (XI 19)) (va_up (va_up (va_up (va_up XA 31 (XA 31)) 33 y4) 35 (XA 35)) 36 y6) XL MI (va_up MA 15 y8) ML := fun y4 y6 y8 => by
    have e : ∀ (f g : Nat → Int32) , va_up (va_up (va_up (va_up XA 31 (XA 31)) 33 f) 35 (XA 35)) 36 g = va_up (va_up XA 33 f) 36 g := fun f g => by
      rw [up_same]
      congr 1
      exact up_same (va_up XA 33 f) 35
    rw [e, up_same]
    exact ⟨P, S, hq, hN, hW, hPa, hH, hg, hF, hT, hb1, hb2, hs⟩
  unfold ls_33 w_X9_home w_X10_home
  rw [hq.2.2.2.1]
  rcases id hF with ⟨f1, f2, f3⟩ | ⟨f1, f2, n, f3, f4, f5, f6, f7⟩
  · rw [f1, f2, f3]
    exact ref1_unmade (ff (by decide) (askF_unmade (ff (by decide) ⟨rfl, hno _ _ _⟩)))
  rw [f1, f2, f3, f4, f6]
  obtain ⟨r1, r2, r3, r4, r5, r6, r7, r8, r9⟩ := id f7
  rcases ix3 a1 n (by omega) with g | ⟨k, hk, rfl, g1, g2⟩
  · exact ref1_no g (ff (by decide) (askF_no (by omega) g (ff (by decide) ⟨rfl, hno _ _ _⟩)))
  refine ref1_yes g1 g2 (tt rfl (astray_spec (E := fun i a => ∃ t, t < S ∧ XA 34 (i * S + t) = nI a) (Z := fun i => i = k) (by omega) hS16 hk (fun i t hi ht => (r3 i t hi ht).2) (fun i a hi ha => Iff.rfl) (fun i hi => Iff.rfl) r9 (fun r g o l q htn hr => ?_)))
  have hinw : ∀ (x : Int32) (y8 : Nat → Int32), Inw (va_up XI 19 1) (va_up (va_up (va_up (va_up XA 31 g) 33 l) 35 o) 36 q) XL MI (va_up MA 15 y8) ML := fun _ y8 => ⟨P, S, hq, hN, hW, hPa, hH, hg, Or.inr ⟨f1, f2, n, f3, f4, f5, f6, r1, r2, r3, r4, r5, r6, r7, r8, Or.inr ⟨rfl, htn⟩⟩, hT, hb1, hb2, hs⟩
  have mside : ∀ x : Int32, ((¬ r = NONE ∧ x = 0) ∨ (r = NONE ∧ x = 1)) → w_X10_askField (nI n) 1 (nI k) (fun r1 => (0 ≤ r1 → w_X10_leastNotTo (nI n) (nI S) (MA 15) (MA 17) (nI k) (fun r4 y5 => (¬ r4 = (-2000000005 : Int32) → x = (0 : Int32) ∧ Inw (va_up XI 19 1) (va_up (va_up (va_up (va_up XA 31 g) 33 l) 35 o) 36 q) XL MI (va_up MA 15 y5) ML) ∧ (r4 = (-2000000005 : Int32) → x = (1 : Int32) ∧ Inw (va_up XI 19 1) (va_up (va_up (va_up (va_up XA 31 g) 33 l) 35 o) 36 q) XL MI (va_up MA 15 y5) ML))) ∧ (¬ 0 ≤ r1 → x = r1 ∧ Inw (va_up XI 19 1) (va_up (va_up (va_up (va_up XA 31 g) 33 l) 35 o) 36 q) XL MI (va_up MA 15 (MA 15)) ML)) := by
    intro x hx
    refine askF_yes (by omega) hk (tt (by decide) (notTo_spec (E := fun i a => ∃ t, t < S ∧ XA 34 (i * S + t) = nI a) (Z := fun i => i = k) (by omega) hS16 (fun i t hi ht => by rw [← (r3 i t hi ht).1]; exact (r3 i t hi ht).2) (fun i a hi ha => ?_) (fun i hi => ⟨fun q => by rw [q], fun q => nI_inj (by omega) (by omega) q⟩) (fun r' lv' hr' => ?_)))
    · exact ⟨fun ⟨t, ht, e⟩ => ⟨t, ht, by rw [← (r3 i t hi ht).1]; exact e⟩, fun ⟨t, ht, e⟩ => ⟨t, ht, by rw [(r3 i t hi ht).1]; exact e⟩⟩
    · rw [← LO_uniq hr hr']
      rcases hx with ⟨e1, e2⟩ | ⟨e1, e2⟩
      · exact nf e1 ⟨e2, hinw x lv'⟩
      · exact nt e1 ⟨e2, hinw x lv'⟩
  by_cases c : r = NONE
  · exact nt c (mside 1 (Or.inr ⟨c, rfl⟩))
  · exact nf c (mside 0 (Or.inl ⟨c, rfl⟩))
