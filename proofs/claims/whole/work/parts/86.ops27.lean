/-! ===== tree ===== -/
section TRE2
variable {P S : Nat} {pk sk tk pt nd cl wt gf tf pi hd : Nat → Int32} {co : Int32}
theorem treeMake_spec {M : Nat} {sz wd md x1 x2 : Int32} {things : Nat → Int64} {leaves by_ cells former heads links child start : Nat → Int32} {post : Int32 → Int32 → Int32 → Int32 → Int32 → Int32 → (Nat → Int32) → (Nat → Int64) → (Nat → Int32) → (Nat → Int32) → (Nat → Int32) → (Nat → Int32) → (Nat → Int32) → (Nat → Int32) → Prop}
    (hN : cNet P S pk sk tk pt nd cl wt gf tf pi hd co) (hc : co = 0) (hpl : ∀ s, s < S → sk s ≤ 1) (hM1 : 1 ≤ M) (hM : M ≤ 2000) (hst : ∀ p, p < P → ∃ v : Nat, start p = nI v ∧ v ≤ 1000000000)
    (h1 : ∀ n eB eN child' leaves' by' cells' former' heads' links', tX P S n eN eB by' cells' former' heads' links' leaves' pt tk → (∀ (postM : Int32 → Int32 → Int32 → (Nat → Int32) → (Nat → Int32) → (Nat → Int32) → (Nat → Int32) → Prop) K {has ab lf nodes st : Nat → Int32}, (∀ p, p < P → nodes p = start p) → (∀ z ab' lf' nodes' st', tM P n n by' cells' former' leaves' ab' st' lf' nodes' → K z 1 (nI n) ab' lf' nodes' st') → ∃ f, w_X10_tree_L80 (nI M) (nI P) (nI S) pk has nd pt sk tk postM K f 0 1 1 (upd ab 0 NONE) lf nodes (upd st 0 NONE)) → post 1 eB eN 1 (nI n) (nI P) child' things leaves' by' cells' former' heads' links')
    (h0 : ∀ n eB eN child' leaves' by' cells' former' heads' links', (∀ (postM : Int32 → Int32 → Int32 → (Nat → Int32) → (Nat → Int32) → (Nat → Int32) → (Nat → Int32) → Prop) K {has ab lf nodes st : Nat → Int32}, (∀ p, p < P → nodes p = start p) → (∀ ab' lf' nodes' st', postM (-2000000004) 0 0 ab' lf' nodes' st') → ∃ f, w_X10_tree_L80 (nI M) (nI P) (nI S) pk has nd pt sk tk postM K f 0 1 1 (upd ab 0 NONE) lf nodes (upd st 0 NONE)) → post 0 eB eN 0 (nI n) (nI P) child' things leaves' by' cells' former' heads' links') :
    w_X8_make 2000 x1 x2 md sz wd (nI P) (nI S) child things leaves by_ cells former heads links cl gf hd nd pk pt pi tk tf wt start (nI M) post := by
  have hP16 := hN.1.1
  have hS16 := hN.1.2
  refine begin_spec (fun hds hb => become_spec (fun g hg => addChild_spec (n := 0) hP16 (by omega) (hx_0 hb) (fun bb cells0 heads0 links0 c1 c2 c3 c4 => ?_)))
  refine ⟨M + 1, ?_⟩
  have nb : ∀ {r : Int32}, (r = 0 ∨ r = 1) → vp_nar .boolean r = r := fun h => by rcases h with rfl | rfl <;> rfl
  have key : ∀ d i n eB eN child1 (leaves1 by1 cells1 former1 heads1 links1 : Nat → Int32), i + d = M → i ≤ n → n ≤ M → tX P S n eN eB by1 cells1 former1 heads1 links1 leaves1 pt tk →
      (∀ (n' : Nat) (postM : Int32 → Int32 → Int32 → (Nat → Int32) → (Nat → Int32) → (Nat → Int32) → (Nat → Int32) → Prop) K (has : Nat → Int32), (∀ ab lf nodes st, tM P n i by1 cells1 former1 leaves1 ab st lf nodes → w_X10_tree_L80 (nI M) (nI P) (nI S) pk has nd pt sk tk postM K n' (nI i) 1 (nI n) ab lf nodes st) → ∀ {ab lf nodes st : Nat → Int32}, (∀ p, p < P → nodes p = start p) → ∃ f, w_X10_tree_L80 (nI M) (nI P) (nI S) pk has nd pt sk tk postM K f 0 1 1 (upd ab 0 NONE) lf nodes (upd st 0 NONE)) →
      w_X8_make_L45 2000 (nI M) (0 : Int32) (nI P) (nI P) (nI S) cl gf hd nd pk pt pi tk tf wt start post (fun _ s36 s37 s38 s39 s40 s41 s42 s43 s44 s45 s46 => post (1 : Int32) s36 s37 (1 : Int32) s38 (nI P) s39 s40 s41 s42 s43 s44 s45 s46) (d + 1) (nI i) eB eN (nI n) child1 things leaves1 by1 cells1 former1 heads1 links1 := by
    intro d
    induction d with
    | zero =>
      intro i n eB eN child1 leaves1 by1 cells1 former1 heads1 links1 hd' hin hnM hxF hQ
      have e : n = i := by omega
      subst e
      refine tt (nI_le (Nat.le_refl n) (by omega)) (h1 _ _ _ _ _ _ _ _ _ _ hxF (fun postM K has ab lf nodes st hcm hp => ?_))
      exact hQ 1 postM K has (fun ab' lf' nodes' st' hm' => tt (nI_le (Nat.le_refl n) (by omega)) (hp _ _ _ _ _ hm')) hcm
    | succ d ih =>
      intro i n eB eN child1 leaves1 by1 cells1 former1 heads1 links1 hd' hin hnM hxF hQ
      by_cases e : n = i
      · subst e
        refine tt (nI_le (Nat.le_refl n) (by omega)) (h1 _ _ _ _ _ _ _ _ _ _ hxF (fun postM K has ab lf nodes st hcm hp => ?_))
        exact hQ 1 postM K has (fun ab' lf' nodes' st' hm' => tt (nI_le (Nat.le_refl n) (by omega)) (hp _ _ _ _ _ hm')) hcm
      · have i8 : vp_in (nI i) 2000 := vp_in_nI (by omega) (by omega)
        have hlv := hxF.2.2.2.2.2.1 i (by omega)
        -- the reference asks whether the node stands before
        have mgo : ∀ {postM : Int32 → Int32 → Int32 → (Nat → Int32) → (Nat → Int32) → (Nat → Int32) → (Nat → Int32) → Prop} {K} {n' : Nat} {has ab lf nodes st : Nat → Int32}, tM P n i by1 cells1 former1 leaves1 ab st lf nodes → (tM P n (i + 1) by1 cells1 former1 leaves1 ab st (upd lf i (leaves1 i)) nodes → ∃ f, w_X10_tree_L101 (nI M) (nI i) (nI P) (nI S) pk has (upd lf i (leaves1 i)) nd pt sk tk postM (fun _ s33 s34 s35 s36 s37 => ∀ x38 : Int32, x38 = nI i + (1 : Int32) → w_X10_tree_L80 (nI M) (nI P) (nI S) pk has nd pt sk tk postM K n' x38 s33 s34 s35 (upd lf i (leaves1 i)) s36 s37) f 0 1 (nI n) ab nodes st) → w_X10_tree_L80 (nI M) (nI P) (nI S) pk has nd pt sk tk postM K (n' + 1) (nI i) 1 (nI n) ab lf nodes st := by
          intro postM K n' has ab lf nodes st hm hh
          have hm2 : tM P n (i + 1) by1 cells1 former1 leaves1 ab st (upd lf i (leaves1 i)) nodes := ⟨hm.1, hm.2.1, fun j hj => by
            by_cases ej : j = i
            · rw [ej, pk_us]
            · rw [pk_un ej]; exact hm.2.2 j (by omega)⟩
          refine ff (nI_ge (by omega) (by omega)) (twice_spec (n := n) (cells := cells1) hP16 (by omega) (by omega) hm.1 (fun q => ⟨i8, ?_⟩) (fun q => ⟨i8, ?_⟩))
          · rw [nb (Or.inr rfl), nI_cl (n := i) (by omega)]
            have : leaves1 i = 1 := by
              rcases hlv with w | w
              · exact w.1
              · exact absurd q w.2
            have hh2 := hh hm2
            rw [this] at hh2; exact hh2
          · rw [nb (Or.inl rfl), nI_cl (n := i) (by omega)]
            have : leaves1 i = 0 := by
              rcases hlv with w | w
              · exact absurd w.2 q
              · exact w.1
            have hh2 := hh hm2
            rw [this] at hh2; exact hh2
        refine ff (nI_ge (by omega) (by omega)) (ff (nI_ge (by omega) (by omega)) ⟨i8, ?_⟩)
        rw [nI_cl (n := i) (by omega)]
        by_cases cl0 : leaves1 i = 0
        · refine nt cl0 (branch_spec hN hc hpl hM hnM (by omega) hxF (fun n' eB2 eN2 child2 leaves2 by2 cells2 former2 heads2 links2 b1 b2 hx2 hM2 => y1 (nm ?_)) (fun n' eB2 eN2 child2 leaves2 by2 cells2 former2 heads2 links2 hM2 => y0 ?_))
          · rw [nI_1]
            refine ih (i + 1) n' eB2 eN2 child2 leaves2 by2 cells2 former2 heads2 links2 (by omega) (by omega) b2 hx2 (fun k postM K has hK ab lf nodes st hcm => hQ (k + 1) postM K has (fun ab' lf' nodes' st' hm' => mgo hm' (fun hm2 => ?_)) hcm)
            refine hM2 _ _ (by rw [pk_us]; exact cl0) hm2 (fun z ab3 nodes3 st3 hm3 => nm ?_)
            rw [nI_1]
            exact hK _ _ _ _ hm3
          · refine h0 _ _ _ _ _ _ _ _ _ _ (fun postM K has ab lf nodes st hcm hp => ?_)
            refine hQ 1 postM K has (fun ab' lf' nodes' st' hm' => mgo (n' := 0) hm' (fun hm2 => ?_)) hcm
            exact hM2 _ _ (by rw [pk_us]; exact cl0) hm2 (fun ab3 nodes3 st3 => hp _ _ _ _)
        · refine nf cl0 (nm ?_)
          rw [nI_1]
          refine ih (i + 1) n eB eN child1 leaves1 by1 cells1 former1 heads1 links1 (by omega) (by omega) hnM hxF (fun k postM K has hK ab lf nodes st hcm => hQ (k + 1) postM K has (fun ab' lf' nodes' st' hm' => mgo hm' (fun hm2 => ?_)) hcm)
          have fin : ∀ x38 : Int32, x38 = nI i + (1 : Int32) → w_X10_tree_L80 (nI M) (nI P) (nI S) pk has nd pt sk tk postM K k x38 1 (nI n) ab' (upd lf' i (leaves1 i)) nodes' st' := nm (by rw [nI_1]; exact hK _ _ _ _ hm2)
          refine ⟨1, ?_⟩
          by_cases s0 : nI S ≤ (0 : Int32)
          · exact tt s0 fin
          · refine ff s0 ⟨i8, ?_⟩
            rw [nI_cl (n := i) (by omega), pk_us]
            exact nf cl0 fin
  have e0 : (0 : Nat) * P = 0 := Nat.zero_mul P
  have cl0 : (0 : Int32).toNatClampNeg = 0 := by decide
  have row0 : ∀ p, p < P → ∃ v : Nat, cells0 (0 * P + p) = nI v ∧ v ≤ 1000000000 := fun p hp => by
    obtain ⟨v, ev, bv⟩ := hst p hp
    exact ⟨v, by rw [c2 p hp, hg p (by omega)]; exact ev, bv⟩
  refine key M 0 1 (-1) (-1) _ _ _ _ _ _ _ (by omega) (by omega) hM1 ⟨⟨Nat.le_refl 1, by omega⟩, fun j p hj hp => ?_, ⟨pk_us, pk_us⟩, fun j a b => absurd a (by omega), c3, fun j hj => ?_, Or.inl ⟨rfl, fun j p hj hp => ?_⟩⟩ (fun n' postM K has hK ab lf nodes st hcm => ⟨n', hK _ _ _ _ ⟨fun j p hj hp => ?_, fun j hj => ?_, fun j hj => absurd hj (by omega)⟩⟩)
  · have ej : j = 0 := by omega
    subst ej
    obtain ⟨v, ev, bv⟩ := row0 p hp
    exact Or.inr ⟨v, ev, by omega⟩
  · have ej : j = 0 := by omega
    subst ej
    rw [pk_us]; exact c4
  · have ej : j = 0 := by omega
    subst ej
    obtain ⟨v, ev, bv⟩ := row0 p hp
    rw [ev]; exact end_ne (by omega)
  · have ej : j = 0 := by omega
    subst ej
    obtain ⟨v, ev, bv⟩ := hst p hp
    refine Or.inr ⟨v, by omega, ?_, ?_⟩
    · rw [c2 p hp, hg p (by omega)]; exact ev
    · show nodes (16 * 0 + p) = nI v
      rw [show 16 * 0 + p = p by omega, hcm p hp]; exact ev
  · have ej : j = 0 := by omega
    subst ej
    rw [pk_us, pk_us, pk_us, pk_us]; exact ⟨rfl, rfl⟩
end TRE2
theorem in0 {n : Nat} (h : 0 < n ∧ n < 2 ^ 31) : vp_in (0 : Int32) n := vp_in_nI (n := 0) h.1 h.2
theorem tRl_of {P S n : Nat} {eN eB : Int32} {by_ cells former heads links leaves pt tk ab st lf nodes : Nat → Int32} (hx' : tX P S n eN eB by_ cells former heads links leaves pt tk) (hm : tM P n n by_ cells former leaves ab st lf nodes) : tRl P S pt tk n eN eB by_ cells former leaves ab st lf nodes := by
  obtain ⟨a1, a2, a3, a4, a5, a6, a7⟩ := hx'
  obtain ⟨b1, b2, b3⟩ := hm
  refine ⟨a1, fun i p hi hp => b1 i p hi hp, ⟨a3.1, a3.2, ?_, ?_⟩, fun i h0 hi => ?_, fun i hi => ⟨b3 i hi, ?_⟩, a7⟩
  · rw [← (b2 0 (by omega)).1]; exact a3.1
  · rw [← (b2 0 (by omega)).2]; exact a3.2
  · obtain ⟨a, t, h1, h2, h3, h4⟩ := a4 i h0 hi
    exact ⟨a, t, h1, h2, h3, by rw [← (b2 i hi).1]; exact h3, h4, by rw [← (b2 i hi).2]; exact h4⟩
  · rcases a6 i hi with w | w
    · exact Or.inr w.1
    · exact Or.inl w.1
theorem p_36 : St_36 Inw := by
  intro XI XA XL MI MA ML hI a1
  obtain ⟨P, S, hq, hN, hW, hPa, hH, hg, hF, hT, hb1, hb2, hs⟩ := id hI
  obtain ⟨q9, m0, q10, m1, k5, k27, k29, k24, k16, k4, k31, k10⟩ := id hq
  have hP16 : P ≤ 16 := hN.1.1
  have hS16 : S ≤ 16 := hN.1.2
  have hno : Inw (va_up (va_up (va_up (va_up (va_up XI 2 (XI 2)) 3 (XI 3)) 4 (XI 4)) 5 (XI 5)) 6 (XI 6)) (va_up (va_up (va_up (va_up (va_up (va_up (va_up XA 0 (XA 0)) 1 (XA 1)) 2 (XA 2)) 3 (XA 3)) 4 (XA 4)) 5 (XA 5)) 6 (XA 6)) (va_up XL 0 (XL 0)) (va_up (va_up MI 10 (MI 10)) 11 (MI 11)) (va_up (va_up (va_up (va_up MA 0 (MA 0)) 13 (MA 13)) 18 (MA 18)) 28 (MA 28)) ML := by simp only [up_same]; exact hI
  unfold ls_36 w_X9_tree w_X10_tree
  rw [q9, m0, q10, m1, k5, k27, k29, k16, k24]
  by_cases c1 : a1 < 1
  · exact tt c1 (isIn_lo c1 (y0 ⟨rfl, hno⟩))
  refine ff c1 ?_
  by_cases c2 : ¬ a1 ≤ 2000
  · exact ff c2 (isIn_hi (nlt_le c2) (y0 ⟨rfl, hno⟩))
  have c2 := Decidable.not_not.mp c2
  refine tt c2 ?_
  obtain ⟨M, hM1, rfl⟩ : ∃ N : Nat, N ≤ 2000 ∧ a1 = nI N := nI_of2 (M := 2000) (by decide) (fun q => c1 (lt0_1 q)) c2
  have hM0 : 1 ≤ M := by
    rcases Nat.eq_zero_or_pos M with e | e
    · subst e; exact absurd (by decide) c1
    · exact e
  by_cases cz : ¬ XI 11 ≤ 0
  · exact tt (Int32.not_le.mp cz) (isIn_in c1 (le_nlt c2) (y1 (plain_spec hN (fun q => absurd ((co_le hN).mpr q) cz) (fun _ => y0 ⟨rfl, hno⟩))))
  have cz := Decidable.not_not.mp cz
  have cz' := (co_le hN).mp cz
  refine ff (le_nlt cz) (stepAbove_spec hS16 (fun hpl => z0 ?_) (fun hpl => z1 ?_))
  · refine treeMake_spec hN cz' hpl hM0 hM1 (fun p hp => ?_) (fun n eB eN child' leaves' by' cells' former' heads' links' hx' hM' => z1 ?_) (fun n eB eN child' leaves' by' cells' former' heads' links' hM' => z0 ?_)
    · obtain ⟨e, v, ev, bv, -⟩ := hW p (by omega)
      exact ⟨v, e.trans ev, bv⟩
    · refine isIn_in c1 (le_nlt c2) (y1 (plain_spec hN (fun _ _ => y1 (treeC hP16 (fun z g hg' => ⟨in0 (by omega), in0 (by omega), ?_⟩))) (fun q => absurd ⟨cz', hpl⟩ q)))
      refine hM' _ _ (fun p hp => (hg' p hp).trans (hW p (by omega)).1.symm) (fun z ab' lf' nodes' st' hm => ⟨rfl, ?_⟩)
      exact ⟨P, S, hq, hN, hW, hPa, hH, hg, hF, Or.inr ⟨rfl, rfl, n, rfl, rfl, rfl, tRl_of hx' hm⟩, hb1, hb2, hs⟩
    · refine isIn_in c1 (le_nlt c2) (y1 (plain_spec hN (fun _ _ => y1 (treeC hP16 (fun z g hg' => ⟨in0 (by omega), in0 (by omega), ?_⟩))) (fun q => absurd ⟨cz', hpl⟩ q)))
      refine hM' _ _ (fun p hp => (hg' p hp).trans (hW p (by omega)).1.symm) (fun ab' lf' nodes' st' => ⟨rfl, ?_⟩)
      exact ⟨P, S, hq, hN, hW, hPa, hH, hg, hF, Or.inl ⟨rfl, rfl, rfl⟩, hb1, hb2, hs⟩
  · exact isIn_in c1 (le_nlt c2) (y1 (plain_spec hN (fun _ q => absurd q hpl) (fun _ => y0 ⟨rfl, hno⟩)))
