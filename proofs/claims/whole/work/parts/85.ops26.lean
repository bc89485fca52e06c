/-! ===== tree: branch and make ===== -/
section TRE
variable {P S : Nat} {pk sk tk pt nd cl wt gf tf pi hd : Nat → Int32} {co : Int32}
theorem tX_add {n i s d : Nat} {eN eB r b : Int32} {by_ cells cells' former heads links heads' links' leaves h : Nat → Int32} (hn : n < 2000) (hi : i < n) (hs : s < S) (hS : S ≤ 16) (hX : tX P S n eN eB by_ cells former heads links leaves pt tk)
    (hv : ∀ p, p < P → (cells (i * P + p) = 2147483647 ∧ h p = 2147483647) ∨ ∃ v : Nat, h p = nI v ∧ v ≤ 1000000000 + 9 * (i + 1) ∧ h p = cells (i * P + p) + (pt (16 * s + p) - tk (16 * s + p)))
    (c1 : ∀ j p, j < n → p < P → cells' (j * P + p) = cells (j * P + p)) (c2 : ∀ p, p < P → cells' (n * P + p) = HS P cells former i h (d + 1) p) (c3 : hx P (n + 1) cells' heads' links') (c4 : (b = 1 ∧ DUP P cells' n) ∨ (b = 0 ∧ ¬ DUP P cells' n)) (hNI : NI_ P cells former i h (d + 1) r) : tX P S (n + 1) (if r < 0 ∨ 0 ≤ eN then eN else nI n) (if r < 0 ∨ 0 ≤ eN then eB else r) (upd by_ n (nI s)) cells' (upd former n (nI i)) heads' links' (upd leaves n b) pt tk := by
  obtain ⟨x1, x2, x3, x4, x5, x6, x7⟩ := hX
  refine ⟨⟨by omega, by omega⟩, fun j p hj hp => ?_, ?_, fun j h1 h2 => ?_, c3, fun j hj => ?_, ?_⟩
  · by_cases e : j = n
    · rw [e, c2 p hp]
      rcases HS_cases (P := P) (cells := cells) (former := former) (h := h) (i := i) (p := p) (d + 1) with q | q
      · exact Or.inl q
      · rw [q]
        rcases hv p hp with w | ⟨v, w1, w2, -⟩
        · exact Or.inl w.2
        · exact Or.inr ⟨v, w1, by omega⟩
    · rw [c1 j p (by omega) hp]; exact x2 j p (by omega) hp
  · rw [pk_un (by omega), pk_un (by omega)]; exact x3
  · by_cases e : j = n
    · subst e; rw [pk_us, pk_us]; exact ⟨i, s, hi, hs, rfl, rfl⟩
    · rw [pk_un e, pk_un e]; exact x4 j h1 (by omega)
  · by_cases e : j = n
    · rw [e, pk_us]; exact c4
    · rw [pk_un e, DUP_same c1 (show j < n by omega)]; exact x6 j (by omega)
  · refine tEnd_add hn hi (by omega) (fun j h1 h2 => ?_) x3.1 c1 c2 (fun p hp q => ?_) hNI x7
    · obtain ⟨a, t, h3, -, h4, -⟩ := x4 j h1 h2
      exact ⟨a, h3, h4⟩
    · rcases hv p hp with w | ⟨v, w1, w2, w3⟩
      · exact absurd w.1 q
      · exact ⟨w3, by rw [w1]; exact end_ne (by omega)⟩
theorem branch_spec {n i M : Nat} {eN eB : Int32} {things : Nat → Int64} {by_ cells former heads links leaves child : Nat → Int32} {post : Int32 → Int32 → Int32 → Int32 → (Nat → Int32) → (Nat → Int64) → (Nat → Int32) → (Nat → Int32) → (Nat → Int32) → (Nat → Int32) → (Nat → Int32) → (Nat → Int32) → Prop}
    (hN : cNet P S pk sk tk pt nd cl wt gf tf pi hd co) (hc : co = 0) (hpl : ∀ s, s < S → sk s ≤ 1) (hM : M ≤ 2000) (hnM : n ≤ M) (hi : i < n) (hx0 : tX P S n eN eB by_ cells former heads links leaves pt tk)
    (h1 : ∀ n' eB' eN' child' leaves' by' cells' former' heads' links', n ≤ n' → n' ≤ M → tX P S n' eN' eB' by' cells' former' heads' links' leaves' pt tk → (∀ (postM : Int32 → Int32 → Int32 → (Nat → Int32) → (Nat → Int32) → (Nat → Int32) → (Nat → Int32) → Prop) K {hT : Int32} {has lf ab nodes st : Nat → Int32}, lf i = 0 → tM P n (i + 1) by_ cells former leaves ab st lf nodes → (∀ z ab' nodes' st', tM P n' (i + 1) by' cells' former' leaves' ab' st' lf nodes' → K z hT (nI n') ab' nodes' st') → ∃ f, w_X10_tree_L101 (nI M) (nI i) (nI P) (nI S) pk has lf nd pt sk tk postM K f 0 hT (nI n) ab nodes st) → post 1 eB' eN' (nI n') child' things leaves' by' cells' former' heads' links')
    (h0 : ∀ n' eB' eN' child' leaves' by' cells' former' heads' links', (∀ (postM : Int32 → Int32 → Int32 → (Nat → Int32) → (Nat → Int32) → (Nat → Int32) → (Nat → Int32) → Prop) K {hT : Int32} {has lf ab nodes st : Nat → Int32}, lf i = 0 → tM P n (i + 1) by_ cells former leaves ab st lf nodes → (∀ ab' nodes' st', postM (-2000000004) 0 0 ab' lf nodes' st') → ∃ f, w_X10_tree_L101 (nI M) (nI i) (nI P) (nI S) pk has lf nd pt sk tk postM K f 0 hT (nI n) ab nodes st) → post 0 eB' eN' (nI n') child' things leaves' by' cells' former' heads' links') :
    w_X8_branch 2000 eB eN (nI n) (nI P) (nI P) (nI S) child things leaves by_ cells former heads links cl gf hd nd pk pt pi tk tf wt (nI i) (nI M) post := by
  have hP16 := hN.1.1
  have hS16 := hN.1.2
  refine pk_loop (σ := Nat × Int32 × Int32 × (Nat → Int32) × (Nat → Int32) × (Nat → Int32) × (Nat → Int32) × (Nat → Int32) × (Nat → Int32) × (Nat → Int32)) (fun f s x => w_X8_branch_L3 2000 (nI i) (nI M) (nI P) (nI P) (nI S) cl gf hd nd pk pt pi tk tf wt post (fun _ s44 s45 s46 s47 s48 s49 s50 s51 s52 s53 s54 => post (1 : Int32) s44 s45 s46 s47 s48 s49 s50 s51 s52 s53 s54) f (nI s) x.2.1 x.2.2.1 (nI x.1) x.2.2.2.1 things x.2.2.2.2.1 x.2.2.2.2.2.1 x.2.2.2.2.2.2.1 x.2.2.2.2.2.2.2.1 x.2.2.2.2.2.2.2.2.1 x.2.2.2.2.2.2.2.2.2)
    (fun s x => (n ≤ x.1 ∧ x.1 ≤ M) ∧ tX P S x.1 x.2.2.1 x.2.1 x.2.2.2.2.2.1 x.2.2.2.2.2.2.1 x.2.2.2.2.2.2.2.1 x.2.2.2.2.2.2.2.2.1 x.2.2.2.2.2.2.2.2.2 x.2.2.2.2.1 pt tk ∧ ∀ (n' : Nat) (postM : Int32 → Int32 → Int32 → (Nat → Int32) → (Nat → Int32) → (Nat → Int32) → (Nat → Int32) → Prop) K (hT : Int32) (has lf : Nat → Int32), lf i = 0 → (∀ ab nodes st, tM P x.1 (i + 1) x.2.2.2.2.2.1 x.2.2.2.2.2.2.1 x.2.2.2.2.2.2.2.1 x.2.2.2.2.1 ab st lf nodes → w_X10_tree_L101 (nI M) (nI i) (nI P) (nI S) pk has lf nd pt sk tk postM K n' (nI s) hT (nI x.1) ab nodes st) → ∀ {ab nodes st : Nat → Int32}, tM P n (i + 1) by_ cells former leaves ab st lf nodes → ∃ f, w_X10_tree_L101 (nI M) (nI i) (nI P) (nI S) pk has lf nd pt sk tk postM K f 0 hT (nI n) ab nodes st)
    S 0 (n, eB, eN, child, leaves, by_, cells, former, heads, links) (by omega) ⟨⟨Nat.le_refl n, hnM⟩, hx0, fun n' postM K hT has lf hlf hh ab nodes st hm => ⟨n', hh _ _ _ hm⟩⟩ ?_ ?_
  · intro f x hxx
    obtain ⟨b, hxF, hQ⟩ := hxx
    refine tt (nI_le (Nat.le_refl S) (by omega)) (h1 _ _ _ _ _ _ _ _ _ _ b.1 b.2 hxF (fun postM K hT has lf ab nodes st hlf hm hp => ?_))
    exact hQ 1 postM K hT has lf hlf (fun ab' nodes' st' hm' => tt (nI_le (Nat.le_refl S) (by omega)) (hp _ _ _ _ hm')) hm
  · intro f s x hs hxx ih
    obtain ⟨b, hxF, hQ⟩ := hxx
    obtain ⟨nn, xeB, xeN, xchild, xleaves, xby, xcells, xformer, xheads, xlinks⟩ := x
    dsimp only at b hxF hQ ih ⊢
    obtain ⟨⟨a1, a1'⟩, a2, a3, a4, a5, a6, a7⟩ := id hxF
    have hf : ∀ j, 0 < j → j < nn → ∃ a : Nat, a < j ∧ xformer j = nI a := fun j q1 q2 => by
      obtain ⟨a, t, h3, -, h4, -⟩ := a4 j q1 q2
      exact ⟨a, h3, h4⟩
    have i8 : vp_in (nI i) 2000 := vp_in_nI (by omega) (by omega)
    have hcl : ∀ p, p < P → cl (16 * s + p) = 0 := fun p hp => by
      refine (hN.2.2.2.2.2.2.2.2.2.2.1 s p hs (by omega)).2 ?_
      have := hpl s hs
      rw [Int32.le_iff_toInt_le] at this
      rw [Int32.lt_iff_toInt_lt]
      have e1 : (1 : Int32).toInt = 1 := by decide
      have e2 : (2 : Int32).toInt = 2 := by decide
      omega
    refine ff (nI_ge hs (by omega)) (load_spec hP16 (by omega) (by omega) (fun g g1 g2 => ?_))
    have hnn : ∀ p, p < P → ¬ g p < 0 := fun p hp => by
      rw [g1 p hp]
      rcases a2 i p (by omega) hp with q | ⟨v, q, w⟩
      · rw [q]; decide
      · rw [q]; exact nI_pos (by omega)
    have gM : ∀ {ab nodes st lf : Nat → Int32}, tM P nn (i + 1) xby xcells xformer xleaves ab st lf nodes → ∀ p, p < P → EV (g p) (nodes (16 * i + p)) := fun hm p hp => by
      rw [g1 p hp]; exact hm.1 i p (by omega) hp
    refine allowsP hN hc hnn (by omega) (fun d => z1 ?_) (fun d => z0 (nm ?_))
    · -- the reference up to its answer
      have mgo : ∀ {postM : Int32 → Int32 → Int32 → (Nat → Int32) → (Nat → Int32) → (Nat → Int32) → (Nat → Int32) → Prop} {K} {n' : Nat} {hT : Int32} {has lf ab nodes st : Nat → Int32}, lf i = 0 → tM P nn (i + 1) xby xcells xformer xleaves ab st lf nodes → ((¬ nI nn = nI M → w_X10_addNode (nI P) (nI nn) ab nodes pt st tk (nI i) (nI s) (fun y26 y27 y28 y29 => ∀ x30 : Int32, x30 = nI s + (1 : Int32) → w_X10_tree_L101 (nI M) (nI i) (nI P) (nI S) pk has lf nd pt sk tk postM K n' x30 hT y26 y27 y28 y29)) ∧ (nI nn = nI M → postM (-2000000004) 0 0 ab lf nodes st)) → w_X10_tree_L101 (nI M) (nI i) (nI P) (nI S) pk has lf nd pt sk tk postM K (n' + 1) (nI s) hT (nI nn) ab nodes st := by
        intro postM K n' hT has lf ab nodes st hlf hm hh
        refine ff (nI_ge hs (by omega)) ⟨i8, ?_⟩
        rw [nI_cl (n := i) (by omega)]
        exact nt hlf (mayAt_spec hP16 (by omega) (by omega) (gM hm) hN.2.2.2.1 hN.2.2.2.2.2.1 hcl (fun _ => z1 hh) (fun q => absurd d q))
      by_cases full : nn < M
      · refine tt (nI_lt full (by omega)) (moveP hN hc (by omega) (fun y m1 m2 => ?_))
        have hv : ∀ p, p < P → (xcells (i * P + p) = 2147483647 ∧ y p = 2147483647) ∨ ∃ v : Nat, y p = nI v ∧ v ≤ 1000000000 + 9 * (i + 1) ∧ y p = xcells (i * P + p) + (pt (16 * s + p) - tk (16 * s + p)) := fun p hp => by
          rcases a2 i p (by omega) hp with q | ⟨v, q, w⟩
          · refine Or.inl ⟨q, ?_⟩
            rw [m1 p hp]; unfold mvd
            rw [if_pos ((g1 p hp).trans q), g1 p hp, q]
          · obtain ⟨a, ha, ea⟩ := hN.2.2.2.1 (16 * s + p) (by omega)
            obtain ⟨u, hu, eu⟩ := hN.2.2.2.2.1 (16 * s + p) (by omega)
            have eg : g p = nI v := (g1 p hp).trans q
            have hav : a ≤ v := pm_take d hp eg ea (by omega)
            obtain ⟨k1, k2⟩ := mvd_val eg (by omega) ea eu hav
            exact Or.inr ⟨_, (m1 p hp).trans k1, by omega, by rw [m1 p hp, k2, g1 p hp]⟩
        have hvM : ∀ {ab nodes st lf : Nat → Int32}, tM P nn (i + 1) xby xcells xformer xleaves ab st lf nodes → ∀ p, p < P → EV (y p) (if 0 ≤ nodes (16 * i + p) then nodes (16 * i + p) + pt (16 * s + p) - tk (16 * s + p) else -1) := fun hm p hp => by
          rcases hv p hp with ⟨w1, w2⟩ | ⟨v, w1, w2, w3⟩
          · rcases hm.1 i p (by omega) hp with ⟨q1, q2⟩ | ⟨v, q1, q2, q3⟩
            · rw [q2, if_neg (by decide)]; exact Or.inl ⟨w2, rfl⟩
            · rw [q2] at w1; exact absurd w1 (end_ne (by omega))
          · rcases hm.1 i p (by omega) hp with ⟨q1, q2⟩ | ⟨v', q1, q2, q3⟩
            · rcases a2 i p (by omega) hp with z | ⟨v'', z, z'⟩
              · have : y p = 2147483647 := by
                  rw [m1 p hp]; unfold mvd
                  rw [if_pos ((g1 p hp).trans q1), g1 p hp, q1]
                rw [w1] at this; exact absurd this (end_ne (by omega))
              · rw [q1] at z; exact absurd z.symm (end_ne (by omega))
            · rw [q3, if_pos (nI_pos' (by omega)), i_as, ← q2, ← w3]
              exact Or.inr ⟨v, by omega, w1, w1⟩
        obtain ⟨dd, d1, d2, d3⟩ : ∃ dd, dd ≤ i ∧ an xformer dd i = 0 ∧ ∀ m, m < dd → 0 < an xformer m i ∧ an xformer m i + m ≤ i := by
          rcases an_dep hf (by omega) (show i < nn by omega) i (Nat.le_refl i) with q | q
          · exact q
          · have := q i (Nat.le_refl i); omega
        refine along_spec (n := nn) hP16 (by omega) (by omega) hf a3.1 (by omega) d1 d2 d3 (fun p hp => rfl) (fun r c' hr' hc' => ?_)
        -- one more node, on both sides
        have step : ∀ eB' eN', eN' = (if r < 0 ∨ 0 ≤ xeN then xeN else nI nn) → eB' = (if r < 0 ∨ 0 ≤ xeN then xeB else r) → w_X8_addChild 2000 (nI nn) (nI P) c' xleaves xby xcells xformer xheads xlinks (nI i) (nI s) (fun y16 y17 y18 y19 y20 y21 y22 => ∀ x23 : Int32, x23 = nI s + (1 : Int32) → w_X8_branch_L3 2000 (nI i) (nI M) (nI P) (nI P) (nI S) cl gf hd nd pk pt pi tk tf wt post (fun _ s44 s45 s46 s47 s48 s49 s50 s51 s52 s53 s54 => post (1 : Int32) s44 s45 s46 s47 s48 s49 s50 s51 s52 s53 s54) f x23 eB' eN' y16 c' things y17 y18 y19 y20 y21 y22) := by
          intro eB' eN' q1 q2
          refine addChild_spec hP16 (by omega) a5 (fun bb cells' heads' links' c1 c2 c3 c4 => nm ?_)
          rw [nI_1]
          have c2' : ∀ p, p < P → cells' (nn * P + p) = HS P xcells xformer i y (dd + 1) p := fun p hp => (c2 p hp).trans (hc' p hp)
          refine ih (nn + 1, eB', eN', c', upd xleaves nn bb, upd xby nn (nI s), cells', upd xformer nn (nI i), heads', links') ⟨⟨by show n ≤ nn + 1; omega, by show nn + 1 ≤ M; omega⟩, ?_, fun n' postM K hT has lf hlf hK => hQ (n' + 1) postM K hT has lf hlf (fun ab nodes st hm => mgo hlf hm (nf (fun q => by have := nI_inj (by omega) (by omega) q; omega) ?_))⟩
          · show tX P S (nn + 1) eN' eB' _ _ _ _ _ _ pt tk
            rw [q1, q2]
            exact tX_add (by omega) (by omega) hs hS16 hxF hv c1 c2' c3 c4 hr'
          · refine addNode_spec hP16 (by omega) (by omega) (by omega) hf a3.1 (fun j hj => (hm.2.1 j hj).1) d1 d2 d3 hm.1 (hvM hm) (fun nodes' e1 e2 => nm ?_)
            rw [nI_1]
            refine hK _ _ _ ⟨fun j p hj hp => ?_, fun j hj => ?_, fun j hj => ?_⟩
            · have hj' : j < nn + 1 := hj
              show EV (cells' (j * P + p)) (nodes' (16 * j + p))
              by_cases e : j = nn
              · rw [e, c2' p hp]; exact e2 p hp
              · rw [c1 j p (by omega) hp, e1 _ (by omega)]; exact hm.1 j p (by omega) hp
            · have hj' : j < nn + 1 := hj
              show upd xformer nn (nI i) j = upd ab nn (nI i) j ∧ upd xby nn (nI s) j = upd st nn (nI s) j
              by_cases e : j = nn
              · rw [e, pk_us, pk_us, pk_us, pk_us]; exact ⟨rfl, rfl⟩
              · rw [pk_un e, pk_un e, pk_un e, pk_un e]; exact hm.2.1 j (by omega)
            · show upd xleaves nn bb j = lf j
              rw [pk_un (by omega)]; exact hm.2.2 j hj
        by_cases c5 : r < 0
        · exact tt c5 (step _ _ (by rw [if_pos (Or.inl c5)]) (by rw [if_pos (Or.inl c5)]))
        · refine ff c5 ?_
          by_cases c6 : 0 ≤ xeN
          · exact tt c6 (step _ _ (by rw [if_pos (Or.inr c6)]) (by rw [if_pos (Or.inr c6)]))
          · exact ff c6 (step _ _ (by rw [if_neg (fun q => q.elim c5 c6)]) (by rw [if_neg (fun q => q.elim c5 c6)]))
      · refine ff (nI_nlt (by omega) (by omega)) (h0 _ _ _ _ _ _ _ _ _ _ (fun postM K hT has lf ab nodes st hlf hm hp => ?_))
        exact hQ 1 postM K hT has lf hlf (fun ab' nodes' st' hm' => mgo (n' := 0) hlf hm' (nt (by congr 1; omega) (hp _ _ _))) hm
    · rw [nI_1]
      refine ih (nn, xeB, xeN, g, xleaves, xby, xcells, xformer, xheads, xlinks) ⟨b, hxF, fun n' postM K hT has lf hlf hK => hQ (n' + 1) postM K hT has lf hlf (fun ab nodes st hm => ?_)⟩
      refine ff (nI_ge hs (by omega)) ⟨i8, ?_⟩
      rw [nI_cl (n := i) (by omega)]
      refine nt hlf (mayAt_spec hP16 (by omega) (by omega) (gM hm) hN.2.2.2.1 hN.2.2.2.2.2.1 hcl (fun q => absurd q d) (fun _ => z0 (nm ?_)))
      rw [nI_1]
      exact hK _ _ _ hm
end TRE
