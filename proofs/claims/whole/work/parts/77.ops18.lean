/-! ===== the field is made: both sides ===== -/
theorem i_as (a b c : Int32) : a + b - c = a + (b - c) := by rw [Int32.sub_eq_add_neg, Int32.sub_eq_add_neg, Int32.add_assoc]
theorem row_lt {j i t S : Nat} (h : j < i) (ht : t < S) : j * S + t < i * S := by
  have : (j + 1) * S ≤ i * S := Nat.mul_le_mul_right S h
  rw [Nat.succ_mul] at this
  omega
theorem row_ne {j i t s S : Nat} (ht : t < S) (h : j < i ∨ (j = i ∧ t < s)) : j * S + t ≠ i * S + s := by
  rcases h with h | ⟨rfl, h⟩
  · have := row_lt h ht; omega
  · omega
/-- the class's list while it grows: rows below i are done, and row i below s -/
def xF (P S n i s : Nat) (by_ cells former heads links nexts : Nat → Int32) : Prop :=
  (1 ≤ n ∧ n ≤ 8000) ∧
  (∀ j p, j < n → p < P → ∃ v : Nat, cells (j * P + p) = nI v ∧ v ≤ 1000000000 + 9 * j) ∧
  (former 0 = NONE ∧ by_ 0 = NONE) ∧
  (∀ j, 0 < j → j < n → ∃ a t : Nat, a < j ∧ t < S ∧ former j = nI a ∧ by_ j = nI t) ∧
  (∀ j k, j < n → k < n → (∀ p, p < P → cells (j * P + p) = cells (k * P + p)) → j = k) ∧
  hx P n cells heads links ∧
  (∀ j t, t < S → (j < i ∨ (j = i ∧ t < s)) → nexts (j * S + t) = NONE ∨ ∃ a : Nat, a < n ∧ nexts (j * S + t) = nI a)
/-- the reference's beside it -/
def mF (P S n i s : Nat) (by_ cells former nexts mby mfield mformer mnext morder : Nat → Int32) : Prop :=
  (∀ j p, j < n → p < P → cells (j * P + p) = mfield (16 * j + p)) ∧
  (∀ j, j < n → former j = mformer j ∧ by_ j = mby j) ∧
  oR P n mfield morder ∧
  (∀ j t, t < S → (j < i ∨ (j = i ∧ t < s)) → nexts (j * S + t) = mnext (16 * j + t))
theorem expandC {P i s : Nat} {v2 fs st : Int32} {by_ cl field former nd next order pt sk tk f : Nat → Int32} {post : Int32 → Int32 → (Nat → Int32) → (Nat → Int32) → (Nat → Int32) → (Nat → Int32) → (Nat → Int32) → (Nat → Int32) → Prop} {K : Int32 → (Nat → Int32) → Prop} (hP : P ≤ 16) (hi : i < 8000) (hs : s < 16) (h : ∀ z g, (∀ p, p < P → g p = field (16 * i + p) + (pt (16 * s + p) - tk (16 * s + p))) → K z g) : ∃ n : Nat, w_X10_expand_L42 (nI i) v2 (nI s) fs (nI P) st by_ cl field former nd next order pt sk tk post K n 0 f := by
  refine pk_loop (fun n k (g : Nat → Int32) => w_X10_expand_L42 (nI i) v2 (nI s) fs (nI P) st by_ cl field former nd next order pt sk tk post K n (nI k) g) (fun k g => ∀ p, p < k → g p = field (16 * i + p) + (pt (16 * s + p) - tk (16 * s + p))) P 0 f (by omega) (fun p hp => absurd hp (by omega)) ?_ ?_
  · intro n g hg
    exact tt (nI_le (Nat.le_refl P) (by omega)) (h _ g hg)
  · intro n k g hk hg ih
    refine ff (nI_ge hk (by omega)) ?_
    rw [ixA, ixA]
    refine ⟨vp_in_nI (by omega) (by omega), vp_in_nI (by omega) (by omega), vp_in_nI (by omega) (by omega), vp_in_nI (by omega) (by omega), nm ?_⟩
    rw [nI_1, nI_cl (n := k) (by omega), nI_cl (n := 16 * i + k) (by omega), nI_cl (n := 16 * s + k) (by omega), i_as]
    refine ih _ (fun p hp => ?_)
    by_cases e : p = k
    · rw [e, pk_us]
    · rw [pk_un e]; exact hg p (by omega)
section FLD
variable {P S : Nat} {pk sk tk pt nd cl wt gf tf pi hd : Nat → Int32} {co : Int32}
/-- a step of the class at marking i, beside the same of the reference -/
theorem follow_spec {n i M : Nat} {fromT toT : Nat → Int64} {by_ cells former heads links nexts from_ to_ : Nat → Int32} {post : Int32 → Int32 → (Nat → Int32) → (Nat → Int32) → (Nat → Int32) → (Nat → Int32) → (Nat → Int32) → (Nat → Int32) → (Nat → Int32) → (Nat → Int32) → (Nat → Int64) → Prop}
    (hN : cNet P S pk sk tk pt nd cl wt gf tf pi hd co) (hc : co = 0) (hM : M ≤ 8000) (hnM : n ≤ M) (hi : i < n) (hx0 : xF P S n i 0 by_ cells former heads links nexts)
    (h1 : ∀ n' by' cells' former' heads' links' from' nexts' to' toT', n ≤ n' → n' ≤ M → xF P S n' (i + 1) 0 by' cells' former' heads' links' nexts' → (∀ (postM : Int32 → Int32 → (Nat → Int32) → (Nat → Int32) → (Nat → Int32) → (Nat → Int32) → (Nat → Int32) → (Nat → Int32) → Prop) {mby come mfield mformer mnext morder : Nat → Int32}, mF P S n i 0 by_ cells former nexts mby mfield mformer mnext morder → (∀ mby' come' mfield' mformer' mnext' morder', mF P S n' (i + 1) 0 by' cells' former' nexts' mby' mfield' mformer' mnext' morder' → postM 1 (nI n') mby' come' mfield' mformer' mnext' morder') → w_X10_expand (nI n) (nI P) (nI S) mby cl come mfield mformer nd mnext morder pt sk tk (nI i) (nI M) postM) → post 1 (nI n') by' cells' former' heads' links' from' nexts' to' toT')
    (h0 : ∀ sz' by' cells' former' heads' links' from' nexts' to' toT', (∀ (postM : Int32 → Int32 → (Nat → Int32) → (Nat → Int32) → (Nat → Int32) → (Nat → Int32) → (Nat → Int32) → (Nat → Int32) → Prop) {mby come mfield mformer mnext morder : Nat → Int32}, mF P S n i 0 by_ cells former nexts mby mfield mformer mnext morder → (∀ x mby' come' mfield' mformer' mnext' morder', postM 0 x mby' come' mfield' mformer' mnext' morder') → w_X10_expand (nI n) (nI P) (nI S) mby cl come mfield mformer nd mnext morder pt sk tk (nI i) (nI M) postM) → post 0 sz' by' cells' former' heads' links' from' nexts' to' toT') :
    w_X1_follow 8000 (nI n) (nI P) (nI S) (nI P) (nI S) by_ cells former heads links from_ fromT nexts to_ toT cl gf hd nd pk pt pi sk tk tf wt (nI i) (nI M) post := by
  have hP16 := hN.1.1
  have hS16 := hN.1.2
  have hx0' := hx0
  obtain ⟨⟨hn1, hn8⟩, x2, x3, x4, x5, x6, x7⟩ := hx0
  refine load_spec hP16 (Nat.le_refl _) (by omega) (fun g g1 g2 => ?_)
  have gv : ∀ p, p < P → ∃ v : Nat, g p = nI v ∧ v ≤ 1000000000 + 9 * i := fun p hp => by
    obtain ⟨v, e, b⟩ := x2 i p hi hp
    exact ⟨v, (g1 p hp).trans e, b⟩
  have hnn : ∀ p, p < P → ¬ g p < 0 := fun p hp => by
    obtain ⟨v, e, b⟩ := gv p hp
    rw [e]; exact nI_pos (by omega)
  have go : ∀ u : Int32, ((u = 1 ∧ PU P S sk tk nd cl g) ∨ (u = 0 ∧ ¬ PU P S sk tk nd cl g)) → ∃ f : Nat, w_X1_follow_L25 8000 (nI i) (nI M) u (nI P) (nI S) (nI P) (nI S) g fromT cl gf hd nd pk pt pi sk tk tf wt post (fun v26 s27 s28 s29 s30 s31 s32 s33 s34 s35 => post (1 : Int32) s27 s28 s29 s30 s31 s32 g s33 s34 s35) f (0 : Int32) (nI n) by_ cells former heads links nexts to_ toT := by
    intro u hu
    refine pk_loop (σ := Nat × (Nat → Int32) × (Nat → Int32) × (Nat → Int32) × (Nat → Int32) × (Nat → Int32) × (Nat → Int32) × (Nat → Int32) × (Nat → Int64)) (fun f s x => w_X1_follow_L25 8000 (nI i) (nI M) u (nI P) (nI S) (nI P) (nI S) g fromT cl gf hd nd pk pt pi sk tk tf wt post (fun v26 s27 s28 s29 s30 s31 s32 s33 s34 s35 => post (1 : Int32) s27 s28 s29 s30 s31 s32 g s33 s34 s35) f (nI s) (nI x.1) x.2.1 x.2.2.1 x.2.2.2.1 x.2.2.2.2.1 x.2.2.2.2.2.1 x.2.2.2.2.2.2.1 x.2.2.2.2.2.2.2.1 x.2.2.2.2.2.2.2.2)
      (fun s x => (n ≤ x.1 ∧ x.1 ≤ M) ∧ xF P S x.1 i s x.2.1 x.2.2.1 x.2.2.2.1 x.2.2.2.2.1 x.2.2.2.2.2.1 x.2.2.2.2.2.2.1 ∧ (∀ p, p < P → x.2.2.1 (i * P + p) = g p) ∧ ∀ (n' : Nat) (postM : Int32 → Int32 → (Nat → Int32) → (Nat → Int32) → (Nat → Int32) → (Nat → Int32) → (Nat → Int32) → (Nat → Int32) → Prop) K, (∀ mby come mfield mformer mnext morder, mF P S x.1 i s x.2.1 x.2.2.1 x.2.2.2.1 x.2.2.2.2.2.2.1 mby mfield mformer mnext morder → w_X10_expand_L2 (nI i) (nI M) (nI P) (nI S) cl nd pt sk tk postM K n' (nI s) (nI x.1) mby come mfield mformer mnext morder) → ∀ {mby come mfield mformer mnext morder : Nat → Int32}, mF P S n i 0 by_ cells former nexts mby mfield mformer mnext morder → ∃ f, w_X10_expand_L2 (nI i) (nI M) (nI P) (nI S) cl nd pt sk tk postM K f 0 (nI n) mby come mfield mformer mnext morder)
      S 0 (n, by_, cells, former, heads, links, nexts, to_, toT) (by omega) ⟨⟨Nat.le_refl n, hnM⟩, hx0', fun p hp => (g1 p hp).symm, fun n' postM K hh mby come mfield mformer mnext morder hm => ⟨n', hh _ _ _ _ _ _ hm⟩⟩ ?_ ?_
    · intro f x hxx
      obtain ⟨b, hxF, hcg, hQ⟩ := hxx
      refine tt (nI_le (Nat.le_refl S) (by omega)) (h1 _ _ _ _ _ _ _ _ _ _ b.1 b.2 ?_ (fun postM mby come mfield mformer mnext morder hm hp => ?_))
      · obtain ⟨a1, a2, a3, a4, a5, a6, a7⟩ := hxF
        exact ⟨a1, a2, a3, a4, a5, a6, fun j t ht hjt => a7 j t ht (by omega)⟩
      · refine hQ 1 postM _ (fun mby' come' mfield' mformer' mnext' morder' hm' => ?_) hm
        obtain ⟨a1, a2, a3, a4⟩ := hm'
        exact tt (nI_le (Nat.le_refl S) (by omega)) (hp _ _ _ _ _ _ ⟨a1, a2, a3, fun j t ht hjt => a4 j t ht (by omega)⟩)
    · intro f s x hs hxx ih
      obtain ⟨b, hxF, hcg, hQ⟩ := hxx
      obtain ⟨nn, xby, xcells, xformer, xheads, xlinks, xnexts, xto, xtoT⟩ := x
      dsimp only at b hxF hcg hQ ih ⊢
      obtain ⟨⟨a1, a1'⟩, a2, a3, a4, a5, a6, a7⟩ := id hxF
      have hrow : i * S + s < 8000 * 16 := mul_in (n := 8000) (by omega) hs hS16
      have hrin : vp_in (nI (i * S + s)) 128000 := vp_in_nI (by omega) (by omega)
      have hmr : vp_in (nI (16 * i + s)) 128000 := vp_in_nI (by omega) (by omega)
      -- the reference's row i
      have mrow : ∀ {mby mfield mformer mnext morder : Nat → Int32}, mF P S nn i s xby xcells xformer xnexts mby mfield mformer mnext morder → ∀ p, p < P → mfield (16 * i + p) = g p := fun hm p hp => by
        rw [← hm.1 i p (by omega) hp]; exact hcg p hp
      refine ff (nI_ge hs (by omega)) (goesWhereP hN hc hnn (by omega) hu (fun d => z1 ?_) (fun d => z0 ?_))
      · refine become_spec (fun y9 hy9 => moveP hN hc (by omega) (fun y10 m1 m2 => ?_))
        have tv : ∀ p, p < P → y10 p = g p + (pt (16 * s + p) - tk (16 * s + p)) ∧ ∃ v : Nat, y10 p = nI v ∧ v ≤ 1000000000 + 9 * (i + 1) := fun p hp => by
          obtain ⟨v, ev, bv⟩ := gv p hp
          obtain ⟨a, ha, ea⟩ := hN.2.2.2.1 (16 * s + p) (by omega)
          obtain ⟨q, hq, eq⟩ := hN.2.2.2.2.1 (16 * s + p) (by omega)
          have hav : a ≤ v := pm_take d.1 hp ev ea (by omega)
          have e9 : y9 p = nI v := (hy9 p (by omega)).trans ev
          obtain ⟨k1, k2⟩ := mvd_val e9 (by omega) ea eq hav
          refine ⟨?_, _, (m1 p hp).trans k1, by omega⟩
          rw [m1 p hp, k2, hy9 p (by omega)]
        -- the reference up to its look-up
        have mgo : ∀ {postM : Int32 → Int32 → (Nat → Int32) → (Nat → Int32) → (Nat → Int32) → (Nat → Int32) → (Nat → Int32) → (Nat → Int32) → Prop} {K : Int32 → Int32 → (Nat → Int32) → (Nat → Int32) → (Nat → Int32) → (Nat → Int32) → (Nat → Int32) → (Nat → Int32) → Prop} {n' : Nat} {mby come mfield mformer mnext morder : Nat → Int32}, mF P S nn i s xby xcells xformer xnexts mby mfield mformer mnext morder → (∀ come', (∀ p, p < P → come' p = y10 p) → w_X10_numberOf (nI nn) (nI P) come' mfield morder (fun r13 =>
            (¬ r13 = (-2000000005 : Int32) →
              w_X10_numberOf (nI nn) (nI P) come' mfield morder (fun r16 =>
              vp_in (nI (16 * i + s)) 128000 ∧
              ∀ x17 : Int32, x17 = nI s + (1 : Int32) →
              w_X10_expand_L2 (nI i) (nI M) (nI P) (nI S) cl nd pt sk tk postM K n' x17 (nI nn) mby come' mfield mformer (upd (upd mnext (16 * i + s) (-2000000005 : Int32)) (16 * i + s) r16) morder)) ∧
            (r13 = (-2000000005 : Int32) →
              (¬ nI nn = nI M →
                w_X10_addMarking (nI nn) (nI P) mby come' mfield mformer morder (nI i) (nI s) (fun y20 y21 y22 y23 y24 =>
                w_X10_numberOf y20 (nI P) come' y22 y24 (fun r25 =>
                vp_in (nI (16 * i + s)) 128000 ∧
                ∀ x26 : Int32, x26 = nI s + (1 : Int32) →
                w_X10_expand_L2 (nI i) (nI M) (nI P) (nI S) cl nd pt sk tk postM K n' x26 y20 y21 come' y22 y23 (upd (upd mnext (16 * i + s) (-2000000005 : Int32)) (16 * i + s) r25) y24))) ∧
              (nI nn = nI M →
                postM (0 : Int32) (nI nn) mby come' mfield mformer (upd mnext (16 * i + s) (-2000000005 : Int32)) morder)))) → w_X10_expand_L2 (nI i) (nI M) (nI P) (nI S) cl nd pt sk tk postM K (n' + 1) (nI s) (nI nn) mby come mfield mformer mnext morder := by
          intro postM K n' mby come mfield mformer mnext morder hm hh
          have hr := mrow hm
          refine ff (nI_ge hs (by omega)) ?_
          have e16 : (16 : Int32) * nI i = nI (16 * i) := by rw [show (16 : Int32) = nI 16 from rfl, pk_mul]
          rw [ixA, e16, nI_cl (n := 16 * i + s) (by omega)]
          refine ⟨hmr, goesMP hP16 hS16 (by omega) (by omega) (by omega) (fun _ => z1 ?_) (fun q => absurd ((PG_congr (fun p hp => hr p hp)).mpr d) q)⟩
          refine expandC hP16 (by omega) (by omega) (fun z come' hcm => hh come' (fun p hp => ?_))
          rw [hcm p hp, hr p hp]; exact ((tv p hp).1).symm
        refine indexOf_spec hP16 (Nat.le_refl _) (by omega) a6 (fun k hk hsm => tt (nI_pos' (by omega)) ?_) (fun hno => ff (by decide) ?_)
        · rw [ixB]
          refine ⟨hrin, nm ?_⟩
          rw [nI_1, nI_cl (n := i * S + s) (by omega)]
          refine ih (nn, xby, xcells, xformer, xheads, xlinks, upd xnexts (i * S + s) (nI k), y10, xtoT) ⟨b, ⟨⟨a1, a1'⟩, a2, a3, a4, a5, a6, fun j t ht hjt => ?_⟩, hcg, fun n' postM K hK => hQ (n' + 1) postM K (fun mby come mfield mformer mnext morder hm => mgo hm (fun come' hcm => ?_))⟩
          · show upd xnexts (i * S + s) (nI k) (j * S + t) = NONE ∨ ∃ a : Nat, a < nn ∧ upd xnexts (i * S + s) (nI k) (j * S + t) = nI a
            by_cases e : j = i ∧ t = s
            · rw [e.1, e.2, pk_us]; exact Or.inr ⟨k, hk, rfl⟩
            · rw [pk_un (row_ne ht (by omega))]; exact a7 j t ht (by omega)
          · have hsame : ∀ j, j < nn → (∀ p, p < P → mR mfield j p = come' p) → j = k := fun j hj q => a5 j k hj hk (fun p hp => by
              rw [hm.1 j p hj hp, hsm p hp, ← hcm p hp]; exact q p hp)
            have hkk : ∀ p, p < P → mR mfield k p = come' p := fun p hp => by
              show mfield (16 * k + p) = _
              rw [← hm.1 k p hk hp, hsm p hp, hcm p hp]
            have nn1 : ∀ j : Nat, j < nn → ¬ nI j = (-2000000005 : Int32) := fun j hj q => by
              have h1 := congrArg Int32.toInt q
              rw [nI_toInt (by omega)] at h1
              have h2 : (-2000000005 : Int32).toInt = -2000000005 := by decide
              omega
            refine numberOf_spec hP16 (by omega) hm.2.2.1 (fun j hj q => nf (nn1 j hj) ?_) (fun q => absurd hkk (q k hk))
            refine numberOf_spec hP16 (by omega) hm.2.2.1 (fun j hj q => ⟨hmr, nm ?_⟩) (fun q => absurd hkk (q k hk))
            rw [nI_1, hsame j hj q]
            refine hK _ _ _ _ _ _ ⟨hm.1, hm.2.1, hm.2.2.1, fun j' t ht hjt => ?_⟩
            show upd xnexts (i * S + s) (nI k) (j' * S + t) = upd (upd mnext (16 * i + s) (-2000000005 : Int32)) (16 * i + s) (nI k) (16 * j' + t)
            by_cases e : j' = i ∧ t = s
            · rw [e.1, e.2, pk_us, pk_us]
            · rw [pk_un (row_ne ht (by omega)), pk_un (by omega), pk_un (by omega)]; exact hm.2.2.2 j' t ht (by omega)
        · by_cases full : nn < M
          · refine tt (nI_lt full (by omega)) (add_spec hP16 (Nat.le_refl _) (by omega) a6 (fun cells' heads' links' c1 c2 c3 => ?_))
            rw [ixB]
            refine ⟨hrin, nm ?_⟩
            rw [nI_1, nI_cl (n := i * S + s) (by omega)]
            have newx : ∀ j, j < nn → ¬ ∀ p, p < P → cells' (j * P + p) = cells' (nn * P + p) := fun j hj q => hno j hj (fun p hp => by
              rw [← c1 j p hj hp, q p hp, c2 p hp])
            refine ih (nn + 1, upd xby nn (nI s), cells', upd xformer nn (nI i), heads', links', upd xnexts (i * S + s) (nI nn), y10, xtoT) ⟨⟨by show n ≤ nn + 1; omega, by show nn + 1 ≤ M; omega⟩, ⟨⟨by show 1 ≤ nn + 1; omega, by show nn + 1 ≤ 8000; omega⟩, fun j p hj hp => ?_, ?_, fun j h1 h2 => ?_, fun j k hj hk q => ?_, c3, fun j t ht hjt => ?_⟩, fun p hp => ?_, fun n' postM K hK => hQ (n' + 1) postM K (fun mby come mfield mformer mnext morder hm => mgo hm (fun come' hcm => ?_))⟩
            · show ∃ v : Nat, cells' (j * P + p) = nI v ∧ v ≤ 1000000000 + 9 * j
              by_cases e : j = nn
              · subst e
                obtain ⟨-, v, ev, bv⟩ := tv p hp
                exact ⟨v, (c2 p hp).trans ev, by omega⟩
              · have hj' : j < nn + 1 := hj
                rw [c1 j p (by omega) hp]; exact a2 j p (by omega) hp
            · show upd xformer nn (nI i) 0 = NONE ∧ upd xby nn (nI s) 0 = NONE
              rw [pk_un (by omega), pk_un (by omega)]; exact a3
            · show ∃ a t : Nat, a < j ∧ t < S ∧ upd xformer nn (nI i) j = nI a ∧ upd xby nn (nI s) j = nI t
              have hj' : j < nn + 1 := h2
              by_cases e : j = nn
              · subst e; rw [pk_us, pk_us]; exact ⟨i, s, by omega, hs, rfl, rfl⟩
              · rw [pk_un e, pk_un e]; exact a4 j h1 (by omega)
            · have hj' : j < nn + 1 := hj
              have hk' : k < nn + 1 := hk
              by_cases e1 : j = nn
              · by_cases e2 : k = nn
                · omega
                · subst e1; exact absurd (fun p hp => (q p hp).symm) (newx k (by omega))
              · by_cases e2 : k = nn
                · subst e2; exact absurd q (newx j (by omega))
                · exact a5 j k (by omega) (by omega) (fun p hp => by rw [← c1 j p (by omega) hp, ← c1 k p (by omega) hp]; exact q p hp)
            · show upd xnexts (i * S + s) (nI nn) (j * S + t) = NONE ∨ ∃ a : Nat, a < nn + 1 ∧ upd xnexts (i * S + s) (nI nn) (j * S + t) = nI a
              by_cases e : j = i ∧ t = s
              · rw [e.1, e.2, pk_us]; exact Or.inr ⟨nn, by omega, rfl⟩
              · rw [pk_un (row_ne ht (by omega))]
                rcases a7 j t ht (by omega) with q | ⟨a, ha, q⟩
                · exact Or.inl q
                · exact Or.inr ⟨a, by omega, q⟩
            · show cells' (i * P + p) = g p
              rw [c1 i p (by omega) hp]; exact hcg p hp
            · have nomk : ∀ j, j < nn → ¬ ∀ p, p < P → mR mfield j p = come' p := fun j hj q => hno j hj (fun p hp => by
                rw [hm.1 j p hj hp, ← hcm p hp]; exact q p hp)
              refine numberOf_spec hP16 (by omega) hm.2.2.1 (fun j hj q => absurd q (nomk j hj)) (fun _ => nt rfl (nf (fun q => by have := nI_inj (by omega) (by omega) q; omega) ?_))
              refine addM_spec hP16 (by omega) hm.2.2.1 nomk (fun field' order' f1 f2 f3 => ?_)
              refine numberOf_spec hP16 (by omega) f3 (fun j hj q => ⟨hmr, nm ?_⟩) (fun q => absurd f1 (q nn (by omega)))
              have ej : j = nn := by
                rcases Nat.lt_or_ge j nn with c | c
                · exact absurd (fun p hp => by rw [← q p hp]; exact (f2 _ (by omega)).symm) (nomk j c)
                · omega
              rw [nI_1, ej]
              refine hK _ _ _ _ _ _ ⟨fun j' p hj' hp => ?_, fun j' hj' => ?_, f3, fun j' t ht hjt => ?_⟩
              · show cells' (j' * P + p) = field' (16 * j' + p)
                have h' : j' < nn + 1 := hj'
                by_cases e : j' = nn
                · rw [e, c2 p hp, f1 p hp, hcm p hp]
                · rw [c1 j' p (by omega) hp, f2 _ (by omega)]; exact hm.1 j' p (by omega) hp
              · show upd xformer nn (nI i) j' = upd mformer nn (nI i) j' ∧ upd xby nn (nI s) j' = upd mby nn (nI s) j'
                have h' : j' < nn + 1 := hj'
                by_cases e : j' = nn
                · rw [e, pk_us, pk_us, pk_us, pk_us]; exact ⟨rfl, rfl⟩
                · rw [pk_un e, pk_un e, pk_un e, pk_un e]; exact hm.2.1 j' (by omega)
              · show upd xnexts (i * S + s) (nI nn) (j' * S + t) = upd (upd mnext (16 * i + s) (-2000000005 : Int32)) (16 * i + s) (nI nn) (16 * j' + t)
                by_cases e : j' = i ∧ t = s
                · rw [e.1, e.2, pk_us, pk_us]
                · rw [pk_un (row_ne ht (by omega)), pk_un (by omega), pk_un (by omega)]; exact hm.2.2.2 j' t ht (by omega)
          · refine ff (nI_nlt (by omega) (by omega)) (h0 _ _ _ _ _ _ _ _ _ _ (fun postM mby come mfield mformer mnext morder hm hp => ?_))
            refine hQ 1 postM _ (fun mby' come' mfield' mformer' mnext' morder' hm' => mgo (n' := 0) hm' (fun come'' hcm => ?_)) hm
            have nomk : ∀ j, j < nn → ¬ ∀ p, p < P → mR mfield' j p = come'' p := fun j hj q => hno j hj (fun p hp => by
              rw [hm'.1 j p hj hp, ← hcm p hp]; exact q p hp)
            refine numberOf_spec hP16 (by omega) hm'.2.2.1 (fun j hj q => absurd q (nomk j hj)) (fun _ => nt rfl (nt (by congr 1; omega) (hp _ _ _ _ _ _ _)))
      · rw [ixB]
        refine ⟨hrin, nm ?_⟩
        rw [nI_1, nI_cl (n := i * S + s) (by omega)]
        refine ih (nn, xby, xcells, xformer, xheads, xlinks, upd xnexts (i * S + s) (-2000000005), xto, xtoT) ⟨b, ⟨⟨a1, a1'⟩, a2, a3, a4, a5, a6, fun j t ht hjt => ?_⟩, hcg, fun n' postM K hK => hQ (n' + 1) postM K (fun mby come mfield mformer mnext morder hm => ?_)⟩
        · show upd xnexts (i * S + s) (-2000000005) (j * S + t) = NONE ∨ ∃ a : Nat, a < nn ∧ upd xnexts (i * S + s) (-2000000005) (j * S + t) = nI a
          by_cases e : j = i ∧ t = s
          · rw [e.1, e.2, pk_us]; exact Or.inl rfl
          · rw [pk_un (row_ne ht (by omega))]; exact a7 j t ht (by omega)
        · have hr := mrow hm
          refine ff (nI_ge hs (by omega)) ?_
          have e16 : (16 : Int32) * nI i = nI (16 * i) := by rw [show (16 : Int32) = nI 16 from rfl, pk_mul]
          rw [ixA, e16, nI_cl (n := 16 * i + s) (by omega)]
          refine ⟨hmr, goesMP hP16 hS16 (by omega) (by omega) (by omega) (fun q => absurd ((PG_congr (fun p hp => hr p hp)).mp q) d) (fun _ => z0 (nm ?_))⟩
          rw [nI_1]
          refine hK _ _ _ _ _ _ ⟨hm.1, hm.2.1, hm.2.2.1, fun j' t ht hjt => ?_⟩
          show upd xnexts (i * S + s) (-2000000005) (j' * S + t) = upd mnext (16 * i + s) (-2000000005 : Int32) (16 * j' + t)
          by_cases e : j' = i ∧ t = s
          · rw [e.1, e.2, pk_us, pk_us]
          · rw [pk_un (row_ne ht (by omega)), pk_un (by omega)]; exact hm.2.2.2 j' t ht (by omega)
  exact urgesP hN hc hnn (fun d => go 1 (Or.inl ⟨rfl, d⟩)) (fun d => go 0 (Or.inr ⟨rfl, d⟩))
end FLD
section FLD2
variable {P S : Nat} {pk sk tk pt nd cl wt gf tf pi hd : Nat → Int32} {co : Int32}
theorem make_spec {M : Nat} {sz wd md stp tu : Int32} {fromT toT : Nat → Int64} {by_ cells former heads links nexts from_ to_ start : Nat → Int32} {post : Int32 → Int32 → Int32 → Int32 → Int32 → Int32 → (Nat → Int32) → (Nat → Int32) → (Nat → Int32) → (Nat → Int32) → (Nat → Int32) → (Nat → Int32) → (Nat → Int32) → (Nat → Int32) → (Nat → Int64) → Prop}
    (hN : cNet P S pk sk tk pt nd cl wt gf tf pi hd co) (hc : co = 0) (hM1 : 1 ≤ M) (hM : M ≤ 8000) (hst : ∀ p, p < P → ∃ v : Nat, start p = nI v ∧ v ≤ 1000000000)
    (h1 : ∀ n by' cells' former' heads' links' from' nexts' to' toT', xF P S n n 0 by' cells' former' heads' links' nexts' → (∀ (postM : Int32 → Int32 → Int32 → (Nat → Int32) → (Nat → Int32) → (Nat → Int32) → (Nat → Int32) → (Nat → Int32) → (Nat → Int32) → Prop) {fs hf : Int32} {mby come mfield mformer mnext morder : Nat → Int32}, (∀ p, p < P → come p = start p) → (∀ mby' come' mfield' mformer' mnext' morder', mF P S n n 0 by' cells' former' nexts' mby' mfield' mformer' mnext' morder' → postM (nI n) (nI n) 1 mby' come' mfield' mformer' mnext' morder') → w_X10_makeField fs hf (nI P) (nI S) mby cl come mfield mformer nd mnext morder pt sk tk (nI M) postM) → post 1 (nI n) (nI P) 1 (nI S) 0 by' cells' former' heads' links' from' nexts' to' toT')
    (h0 : ∀ sz' by' cells' former' heads' links' from' nexts' to' toT', (∀ (postM : Int32 → Int32 → Int32 → (Nat → Int32) → (Nat → Int32) → (Nat → Int32) → (Nat → Int32) → (Nat → Int32) → (Nat → Int32) → Prop) {fs hf : Int32} {mby come mfield mformer mnext morder : Nat → Int32}, (∀ p, p < P → come p = start p) → (∀ mby' come' mfield' mformer' mnext' morder', postM (-2000000004) 0 0 mby' come' mfield' mformer' mnext' morder') → w_X10_makeField fs hf (nI P) (nI S) mby cl come mfield mformer nd mnext morder pt sk tk (nI M) postM) → post 0 sz' (nI P) 0 (nI S) 0 by' cells' former' heads' links' from' nexts' to' toT') :
    w_X1_make 8000 sz wd md stp tu (nI P) (nI S) by_ cells former heads links from_ fromT nexts to_ toT cl gf hd nd pk pt pi sk tk tf wt start (nI M) post := by
  have hP16 := hN.1.1
  have hS16 := hN.1.2
  refine begin_spec (fun hds hb => add_spec (n := 0) hP16 (Nat.le_refl _) (by omega) (hx_0 hb) (fun cells0 heads0 links0 c1 c2 c3 => ?_))
  refine ⟨M + 1, ?_⟩
  have key : ∀ d i n from1 to1 toT1 (by1 cells1 former1 heads1 links1 nexts1 : Nat → Int32), i + d = M → i ≤ n → n ≤ M → xF P S n i 0 by1 cells1 former1 heads1 links1 nexts1 →
      (∀ (n' : Nat) (postM : Int32 → Int32 → Int32 → (Nat → Int32) → (Nat → Int32) → (Nat → Int32) → (Nat → Int32) → (Nat → Int32) → (Nat → Int32) → Prop) K, (∀ mby come mfield mformer mnext morder, mF P S n i 0 by1 cells1 former1 nexts1 mby mfield mformer mnext morder → w_X10_makeField_L20 (nI M) (nI P) (nI S) cl nd pt sk tk postM K n' (nI i) (nI n) 1 mby come mfield mformer mnext morder) → ∀ {mby come mfield mformer mnext morder : Nat → Int32}, (∀ p, p < P → come p = start p) → w_X10_addMarking (0 : Int32) (nI P) mby come mfield mformer morder (-2000000005 : Int32) (-2000000005 : Int32) (fun y1 y2 y3 y4 y5 => ∃ f, w_X10_makeField_L20 (nI M) (nI P) (nI S) cl nd pt sk tk postM K f 0 y1 1 y2 come y3 y4 mnext y5)) →
      w_X1_make_L44 8000 (nI M) (nI P) (0 : Int32) (nI S) (0 : Int32) (nI P) (nI S) fromT cl gf hd nd pk pt pi sk tk tf wt start post (fun v29 s30 s31 s32 s33 s34 s35 s36 s37 s38 s39 => post (1 : Int32) s30 (nI P) (1 : Int32) (nI S) (0 : Int32) s31 s32 s33 s34 s35 s36 s37 s38 s39) (d + 1) (nI i) (nI n) by1 cells1 former1 heads1 links1 from1 nexts1 to1 toT1 := by
    intro d
    induction d with
    | zero =>
      intro i n from1 to1 toT1 by1 cells1 former1 heads1 links1 nexts1 hd' hin hnM hxF hQ
      have e : n = i := by omega
      subst e
      refine tt (nI_le (Nat.le_refl n) (by omega)) (h1 _ _ _ _ _ _ _ _ _ _ hxF (fun postM fs hf mby come mfield mformer mnext morder hcm hp => ?_))
      unfold w_X10_makeField
      exact hQ 1 postM (fun _ s21 s22 s23 s24 s25 s26 s27 s28 => postM s21 s21 s22 s23 s24 s25 s26 s27 s28) (fun mby' come' mfield' mformer' mnext' morder' hm' => tt (nI_le (Nat.le_refl n) (by omega)) (hp _ _ _ _ _ _ hm')) hcm
    | succ d ih =>
      intro i n from1 to1 toT1 by1 cells1 former1 heads1 links1 nexts1 hd' hin hnM hxF hQ
      by_cases e : n = i
      · subst e
        refine tt (nI_le (Nat.le_refl n) (by omega)) (h1 _ _ _ _ _ _ _ _ _ _ hxF (fun postM fs hf mby come mfield mformer mnext morder hcm hp => ?_))
        unfold w_X10_makeField
        exact hQ 1 postM (fun _ s21 s22 s23 s24 s25 s26 s27 s28 => postM s21 s21 s22 s23 s24 s25 s26 s27 s28) (fun mby' come' mfield' mformer' mnext' morder' hm' => tt (nI_le (Nat.le_refl n) (by omega)) (hp _ _ _ _ _ _ hm')) hcm
      · refine ff (nI_ge (by omega) (by omega)) (ff (nI_ge (by omega) (by omega)) (follow_spec hN hc hM hnM (by omega) hxF (fun n' by2 cells2 former2 heads2 links2 from2 nexts2 to2 toT2 b1 b2 hx2 hM2 => y1 (nm ?_)) (fun sz2 by2 cells2 former2 heads2 links2 from2 nexts2 to2 toT2 hM2 => y0 ?_)))
        · rw [nI_1]
          refine ih (i + 1) n' from2 to2 toT2 by2 cells2 former2 heads2 links2 nexts2 (by omega) (by omega) b2 hx2 (fun k postM K hK mby come mfield mformer mnext morder hcm => hQ (k + 1) postM K (fun mby' come' mfield' mformer' mnext' morder' hm' => ?_) hcm)
          refine ff (nI_ge (by omega) (by omega)) (hM2 _ hm' (fun mby2 come2 mfield2 mformer2 mnext2 morder2 hm2 => y1 (nm ?_)))
          rw [nI_1]
          exact hK _ _ _ _ _ _ hm2
        · refine h0 _ _ _ _ _ _ _ _ _ _ (fun postM fs hf mby come mfield mformer mnext morder hcm hp => ?_)
          unfold w_X10_makeField
          refine hQ 1 postM (fun _ s21 s22 s23 s24 s25 s26 s27 s28 => postM s21 s21 s22 s23 s24 s25 s26 s27 s28) (fun mby' come' mfield' mformer' mnext' morder' hm' => ?_) hcm
          exact ff (nI_ge (by omega) (by omega)) (hM2 _ hm' (fun x mby2 come2 mfield2 mformer2 mnext2 morder2 => y0 (hp _ _ _ _ _ _)))
  have e0 : (0 : Nat) * P = 0 := Nat.zero_mul P
  refine key M 0 1 _ _ _ _ _ _ _ _ _ (by omega) (by omega) hM1 ⟨⟨Nat.le_refl 1, by omega⟩, fun j p hj hp => ?_, ⟨pk_us, pk_us⟩, fun j a b => absurd a (by omega), fun j k hj hk _ => by omega, c3, fun j t ht hjt => absurd hjt (by omega)⟩ (fun n' postM K hK mby come mfield mformer mnext morder hcm => ?_)
  · have ej : j = 0 := by omega
    subst ej
    obtain ⟨v, ev, bv⟩ := hst p hp
    exact ⟨v, (c2 p hp).trans ev, by omega⟩
  · refine addM_spec (n := 0) hP16 (by omega) oR_0 (fun i hi => absurd hi (by omega)) (fun field' order' f1 f2 f3 => ⟨n', hK _ _ _ _ _ _ ⟨fun j p hj hp => ?_, fun j hj => ?_, f3, fun j t ht hjt => absurd hjt (by omega)⟩⟩)
    · have ej : j = 0 := by omega
      subst ej
      rw [c2 p hp, f1 p hp, hcm p hp]
    · have ej : j = 0 := by omega
      subst ej
      rw [pk_us, pk_us, pk_us, pk_us]; exact ⟨rfl, rfl⟩
end FLD2
