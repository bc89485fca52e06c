/-! ===== weights and rounds: one row lessened by another ===== -/
theorem l_9 : (1000000000 : Int64).toInt = 1000000000 := by decide
theorem l_m9 : (-1000000000 : Int64).toInt = -1000000000 := by decide
theorem absle {v : Int64} (h : B18 v) : lg_cmp (if 0 < v then v else -v) 1000000000 ≤ 0 ↔ B9 v := by
  have b : v.toInt.natAbs < 2 ^ 63 := by have := h.1; have := h.2; omega
  rw [lg_cmp_le, abs_l h, Int64.le_iff_toInt_le, pk_lT b, l_9]
  unfold B9
  omega
theorem QV_B {x y : Nat → Int64} {col c : Nat} (hcol : col < 32) (hc : c < 32) (bx : ∀ c, c < 32 → B9 (x c)) (by_ : ∀ c, c < 32 → B9 (y c)) : B18 (NV x y col c) ∧ B18 (QV x y col c) := by
  have hB : ∀ c, c < 32 → B18 (NV x y col c) := fun c hc => nv_B (by_ col hcol) (bx c hc) (bx col hcol) (by_ c hc)
  refine ⟨hB c hc, ?_⟩
  unfold QV
  split
  · exact hB c hc
  · exact div_B (hB c hc) (by omega) (gc_b 32 hB)
theorem combineX {r t col : Nat} {cells x y : Nat → Int64} {post : Int32 → (Nat → Int64) → Prop} (hr : r < 16) (ht : t < 16) (hrt : r ≠ t) (hcol : col < 32) (hx : ∀ c, c < 32 → cells (r * 32 + c) = x c) (hy : ∀ c, c < 32 → cells (t * 32 + c) = y c) (bx : ∀ c, c < 32 → B9 (x c)) (by_ : ∀ c, c < 32 → B9 (y c))
    (k1 : (∀ c, c < 32 → B9 (QV x y col c)) → ∀ cells', (∀ c, c < 32 → cells' (r * 32 + c) = QV x y col c) → (∀ j, (j < r * 32 ∨ r * 32 + 32 ≤ j) → cells' j = cells j) → post 1 cells')
    (k0 : (¬ ∀ c, c < 32 → B9 (QV x y col c)) → ∀ cells', post 0 cells') : w_X0_combine cells (nI r) (nI t) (nI col) post := by
  have hB : ∀ c, c < 32 → B18 (NV x y col c) := fun c hc => (QV_B hcol hc bx by_).1
  have hG : gc (NV x y col) 32 < 2 ^ 63 := gc_b 32 hB
  unfold w_X0_combine
  refine nm (nm ?_)
  rw [ix32, ix32]
  refine ⟨vp_in_nI (by omega) (by omega), nm ⟨vp_in_nI (by omega) (by omega), nm ?_⟩⟩
  rw [nI_cl (n := t * 32 + col) (by omega), nI_cl (n := r * 32 + col) (by omega), hy col hcol, hx col hcol]
  refine pk_loop (σ := Int64 × (Nat → Int64)) (fun f c g => w_X0_combine_L40 (nI r * 32) (nI t * 32) (y col) (x col) post _ f g.1 (nI c) g.2) (fun c g => g.1 = lN (gc (NV x y col) c) ∧ (∀ c', c' < 32 → g.2 (r * 32 + c') = if c' < c then NV x y col c' else x c') ∧ (∀ j, (j < r * 32 ∨ r * 32 + 32 ≤ j) → g.2 j = cells j)) 32 0 (0, cells) (by omega) ⟨rfl, fun c' hc' => by rw [if_neg (by omega)]; exact hx c' hc', fun _ _ => rfl⟩ ?_ ?_
  · intro f g hg
    obtain ⟨g1, g2, g3⟩ := hg
    refine tt (nI_le (b := 32) (Nat.le_refl 32) (by omega)) ?_
    rw [g1]
    refine pk_loop (fun f c (g : Nat → Int64) => w_X0_combine_L113 (nI r * 32) (lN (gc (NV x y col) 32)) post (fun _ s25 => post 1 s25) f (nI c) g) (fun c g => (∀ c', c' < 32 → g (r * 32 + c') = if c' < c then QV x y col c' else NV x y col c') ∧ (∀ j, (j < r * 32 ∨ r * 32 + 32 ≤ j) → g j = cells j) ∧ ∀ c', c' < c → B9 (QV x y col c')) 32 0 g.2 (by omega) ⟨fun c' hc' => by rw [if_neg (by omega), g2 c' hc', if_pos hc'], g3, fun c' hc' => absurd hc' (by omega)⟩ ?_ ?_
    · intro f g hg
      exact tt (nI_le (b := 32) (Nat.le_refl 32) (by omega)) (k1 hg.2.2 g (fun c hc => by rw [hg.1 c hc, if_pos hc]) hg.2.1)
    · intro f c g hc hg ih
      obtain ⟨g1, g2, g3⟩ := hg
      have hin : vp_in (nI (r * 32 + c)) 512 := vp_in_nI (by omega) (by omega)
      refine ff (nI_ge (b := 32) hc (by omega)) ?_
      rw [ix32, nI_cl (n := r * 32 + c) (by omega)]
      have e1 : g (r * 32 + c) = NV x y col c := by rw [g1 c hc, if_neg (by omega)]
      have bQ := (QV_B hcol hc bx by_).2
      have nxt : ∀ g' : Nat → Int64, (g' (r * 32 + c) = QV x y col c) → (∀ j, j ≠ r * 32 + c → g' j = g j) → B9 (QV x y col c) → ((∀ c', c' < 32 → g' (r * 32 + c') = if c' < c + 1 then QV x y col c' else NV x y col c') ∧ (∀ j, (j < r * 32 ∨ r * 32 + 32 ≤ j) → g' j = cells j) ∧ ∀ c', c' < c + 1 → B9 (QV x y col c')) := fun g' q1 q2 q3 => by
        refine ⟨fun c' hc' => ?_, fun j hj => by rw [q2 j (by omega)]; exact g2 j hj, fun c' hc' => ?_⟩
        · by_cases e : c' = c
          · rw [e, if_pos (by omega)]; exact q1
          · rw [q2 _ (by omega), g1 c' hc']
            by_cases d : c' < c
            · rw [if_pos d, if_pos (by omega)]
            · rw [if_neg d, if_neg (by omega)]
        · by_cases e : c' = c
          · rw [e]; exact q3
          · exact g3 c' (by omega)
      by_cases cG : gc (NV x y col) 32 ≤ 1
      · have eQ : QV x y col c = NV x y col c := if_pos cG
        refine tt ((lg_cmp_le _ _).mpr ((pk_lLE (b := 1) hG (by omega)).mpr cG)) ⟨hin, ?_⟩
        rw [e1, ← eQ]
        by_cases d : B9 (QV x y col c)
        · refine tt ((absle bQ).mpr d) (nm ?_)
          rw [nI_1]
          exact ih g (nxt g (by rw [e1, eQ]) (fun _ _ => rfl) d)
        · exact ff (fun q => d ((absle bQ).mp q)) (k0 (fun w => d (w c hc)) _)
      · have eQ : QV x y col c = NV x y col c / lN (gc (NV x y col) 32) := if_neg cG
        refine ff (fun q => cG ((pk_lLE (b := 1) hG (by omega)).mp ((lg_cmp_le _ _).mp q))) ⟨hin, lN_ne0 (by omega) hG, hin, hin, ?_⟩
        rw [e1, ← eQ, pk_uLs]
        by_cases d : B9 (QV x y col c)
        · refine tt ((absle bQ).mpr d) (nm ?_)
          rw [nI_1]
          exact ih _ (nxt _ pk_uLs (fun j hj => pk_uLn hj) d)
        · exact ff (fun q => d ((absle bQ).mp q)) (k0 (fun w => d (w c hc)) _)
  · intro f c g hc hg ih
    obtain ⟨g1, g2, g3⟩ := hg
    have hin : vp_in (nI (r * 32 + c)) 512 := vp_in_nI (by omega) (by omega)
    refine ff (nI_ge (b := 32) hc (by omega)) ?_
    rw [ix32 r c, ix32 t c]
    refine ⟨hin, vp_in_nI (by omega) (by omega), hin, hin, ?_⟩
    rw [nI_cl (n := r * 32 + c) (by omega), nI_cl (n := t * 32 + c) (by omega), pk_uLs]
    have e1 : g.2 (r * 32 + c) = x c := by rw [g2 c hc, if_neg (by omega)]
    have e2 : g.2 (t * 32 + c) = y c := by rw [g3 _ (by omega)]; exact hy c hc
    rw [e1, e2, g1, show y col * x c - x col * y c = NV x y col c from rfl, abs_l (hB c hc)]
    refine divX_spec (gc_b c (fun c' hc' => hB c' (by omega))) (by have := (hB c hc).1; have := (hB c hc).2; omega) (nm ?_)
    rw [nI_1]
    refine ih (lN (Nat.gcd (gc (NV x y col) c) (NV x y col c).toInt.natAbs), vp_updL g.2 (r * 32 + c) (NV x y col c)) ⟨rfl, fun c' hc' => ?_, fun j hj => ?_⟩
    · show vp_updL g.2 (r * 32 + c) (NV x y col c) (r * 32 + c') = _
      by_cases e : c' = c
      · rw [e, pk_uLs, if_pos (by omega)]
      · rw [pk_uLn (by omega), g2 c' hc']
        by_cases d : c' < c
        · rw [if_pos d, if_pos (by omega)]
        · rw [if_neg d, if_neg (by omega)]
    · show vp_updL g.2 (r * 32 + c) (NV x y col c) j = _
      rw [pk_uLn (by omega)]; exact g3 j hj
theorem lessM {r t col : Nat} {cells x y : Nat → Int64} {post : Int32 → (Nat → Int64) → Prop} (hr : r < 16) (ht : t < 16) (hrt : r ≠ t) (hcol : col < 32) (hx : ∀ c, c < 32 → cells (r * 32 + c) = x c) (hy : ∀ c, c < 32 → cells (t * 32 + c) = y c) (bx : ∀ c, c < 32 → B9 (x c)) (by_ : ∀ c, c < 32 → B9 (y c))
    (k1 : (∀ c, c < 32 → B9 (QV x y col c)) → ∀ cells', (∀ c, c < 32 → cells' (r * 32 + c) = QV x y col c) → (∀ j, (j < r * 32 ∨ r * 32 + 32 ≤ j) → cells' j = cells j) → post 1 cells')
    (k0 : (¬ ∀ c, c < 32 → B9 (QV x y col c)) → ∀ cells', post 0 cells') : w_X10_lessened cells (nI r) (nI t) (nI col) post := by
  have hB : ∀ c, c < 32 → B18 (NV x y col c) := fun c hc => (QV_B hcol hc bx by_).1
  have hG : gc (NV x y col) 32 < 2 ^ 63 := gc_b 32 hB
  unfold w_X10_lessened
  rw [ix32', ix32']
  refine ⟨vp_in_nI (by omega) (by omega), nm ⟨vp_in_nI (by omega) (by omega), nm ?_⟩⟩
  rw [nI_cl (n := t * 32 + col) (by omega), nI_cl (n := r * 32 + col) (by omega), hy col hcol, hx col hcol]
  refine pk_loop (σ := Int64 × (Nat → Int64)) (fun f c g => w_X10_lessened_L32 (nI r) (nI t) (y col) (x col) post _ f g.1 (nI c) g.2) (fun c g => g.1 = lN (gc (NV x y col) c) ∧ (∀ c', c' < 32 → g.2 (r * 32 + c') = if c' < c then NV x y col c' else x c') ∧ (∀ j, (j < r * 32 ∨ r * 32 + 32 ≤ j) → g.2 j = cells j)) 32 0 (0, cells) (by omega) ⟨rfl, fun c' hc' => by rw [if_neg (by omega)]; exact hx c' hc', fun _ _ => rfl⟩ ?_ ?_
  · intro f g hg
    obtain ⟨g1, g2, g3⟩ := hg
    refine tt (nI_le (b := 32) (Nat.le_refl 32) (by omega)) ?_
    rw [g1]
    refine pk_loop (σ := Int32 × (Nat → Int64)) (fun f c g => w_X10_lessened_L113 (nI r) (lN (gc (NV x y col) 32)) post (fun v36 _ s38 => v36 &&& 1 = v36 ∧ post v36 s38) f g.1 (nI c) g.2) (fun c g => fl (fun c => B9 (QV x y col c)) c g.1 ∧ (∀ c', c' < 32 → g.2 (r * 32 + c') = if c' < c then QV x y col c' else NV x y col c') ∧ (∀ j, (j < r * 32 ∨ r * 32 + 32 ≤ j) → g.2 j = cells j)) 32 0 (1, g.2) (by omega) ⟨fl_0 _, fun c' hc' => by rw [if_neg (by omega)]; show g.2 _ = _; rw [g2 c' hc', if_pos hc'], g3⟩ ?_ ?_
    · intro f g hg
      exact tt (nI_le (b := 32) (Nat.le_refl 32) (by omega)) (fl_post (post := fun v => post v g.2) hg.1 (fun q => k1 q g.2 (fun c hc => by rw [hg.2.1 c hc, if_pos hc]) hg.2.2) (fun q => k0 q _))
    · intro f c g hc hg ih
      obtain ⟨g0, g1, g2⟩ := hg
      have hin : vp_in (nI (r * 32 + c)) 512 := vp_in_nI (by omega) (by omega)
      refine ff (nI_ge (b := 32) hc (by omega)) ?_
      rw [ix32', nI_cl (n := r * 32 + c) (by omega)]
      have e1 : g.2 (r * 32 + c) = NV x y col c := by rw [g1 c hc, if_neg (by omega)]
      have nxt : ∀ v, fl (fun c => B9 (QV x y col c)) (c + 1) v → (fl (fun c => B9 (QV x y col c)) (c + 1) v ∧ (∀ c', c' < 32 → vp_updL g.2 (r * 32 + c) (QV x y col c) (r * 32 + c') = if c' < c + 1 then QV x y col c' else NV x y col c') ∧ (∀ j, (j < r * 32 ∨ r * 32 + 32 ≤ j) → vp_updL g.2 (r * 32 + c) (QV x y col c) j = cells j)) := fun v hv => by
        refine ⟨hv, fun c' hc' => ?_, fun j hj => by rw [pk_uLn (by omega)]; exact g2 j hj⟩
        by_cases e : c' = c
        · rw [e, pk_uLs, if_pos (by omega)]
        · rw [pk_uLn (by omega), g1 c' hc']
          by_cases d : c' < c
          · rw [if_pos d, if_pos (by omega)]
          · rw [if_neg d, if_neg (by omega)]
      have tests : (g.1 = 0 → ∀ x27 : Int32, x27 = nI c + (1 : Int32) → w_X10_lessened_L113 (nI r) (lN (gc (NV x y col) 32)) post (fun v36 _ s38 => v36 &&& 1 = v36 ∧ post v36 s38) f 0 x27 (vp_updL g.2 (r * 32 + c) (QV x y col c))) ∧ (¬ g.1 = 0 → vp_in (nI (r * 32 + c)) 512 ∧ (0 < lg_cmp (QV x y col c) 1000000000 → ∀ x30 : Int32, x30 = nI c + (1 : Int32) → w_X10_lessened_L113 (nI r) (lN (gc (NV x y col) 32)) post (fun v36 _ s38 => v36 &&& 1 = v36 ∧ post v36 s38) f 0 x30 (vp_updL g.2 (r * 32 + c) (QV x y col c))) ∧ (¬ 0 < lg_cmp (QV x y col c) 1000000000 → vp_in (nI (r * 32 + c)) 512 ∧ (lg_cmp (QV x y col c) (-1000000000) < 0 → ∀ x33 : Int32, x33 = nI c + (1 : Int32) → w_X10_lessened_L113 (nI r) (lN (gc (NV x y col) 32)) post (fun v36 _ s38 => v36 &&& 1 = v36 ∧ post v36 s38) f 0 x33 (vp_updL g.2 (r * 32 + c) (QV x y col c))) ∧ (¬ lg_cmp (QV x y col c) (-1000000000) < 0 → ∀ x34 : Int32, x34 = nI c + (1 : Int32) → w_X10_lessened_L113 (nI r) (lN (gc (NV x y col) 32)) post (fun v36 _ s38 => v36 &&& 1 = v36 ∧ post v36 s38) f 1 x34 (vp_updL g.2 (r * 32 + c) (QV x y col c))))) := by
        refine ⟨fun q => nm ?_, fun q => ⟨hin, ?_⟩⟩
        · rw [nI_1]; exact ih (0, _) (nxt 0 (fl_keep g0 q))
        · by_cases d1 : QV x y col c ≤ 1000000000
          · refine ff (fun w => cmp_gt.mp w d1) ⟨hin, ?_⟩
            rw [Int64.le_iff_toInt_le, l_9] at d1
            by_cases d2 : QV x y col c < -1000000000
            · refine tt ((lg_cmp_lt _ _).mpr d2) (nm ?_)
              rw [Int64.lt_iff_toInt_lt, l_m9] at d2
              rw [nI_1]; exact ih (0, _) (nxt 0 (fl_no (fun w => by have := w.1; omega)))
            · refine ff (fun w => d2 ((lg_cmp_lt _ _).mp w)) (nm ?_)
              rw [Int64.lt_iff_toInt_lt, l_m9] at d2
              rw [nI_1]; exact ih (1, _) (nxt 1 (fl_yes g0 q ⟨by omega, d1⟩))
          · refine tt (cmp_gt.mpr d1) (nm ?_)
            rw [Int64.le_iff_toInt_le, l_9] at d1
            rw [nI_1]; exact ih (0, _) (nxt 0 (fl_no (fun w => by have := w.2; omega)))
      by_cases cG : gc (NV x y col) 32 = 0
      · have eQ : QV x y col c = 0 := (if_pos (by omega)).trans (gc_0 32 cG c hc)
        refine nt (by rw [cG]; exact (lg_cmp_eq _ _).mpr rfl) ⟨hin, ?_⟩
        rw [← eQ, pk_uLs]
        rw [eQ]; rw [eQ] at tests; exact tests
      · have eQ : QV x y col c = NV x y col c / lN (gc (NV x y col) 32) := by
          by_cases c1 : gc (NV x y col) 32 ≤ 1
          · have c1' : gc (NV x y col) 32 = 1 := by omega
            unfold QV
            rw [if_pos c1, c1', div_1]
          · exact if_neg c1
        refine nf (lN_cmp0 (by omega) hG) ⟨hin, lN_ne0 (by omega) hG, hin, ?_⟩
        rw [e1, ← eQ, pk_uLs]
        exact tests
  · intro f c g hc hg ih
    obtain ⟨g1, g2, g3⟩ := hg
    have hin : vp_in (nI (r * 32 + c)) 512 := vp_in_nI (by omega) (by omega)
    refine ff (nI_ge (b := 32) hc (by omega)) ?_
    rw [ix32' r c, ix32' t c]
    refine ⟨hin, vp_in_nI (by omega) (by omega), hin, hin, ?_⟩
    rw [nI_cl (n := r * 32 + c) (by omega), nI_cl (n := t * 32 + c) (by omega), pk_uLs]
    have e1 : g.2 (r * 32 + c) = x c := by rw [g2 c hc, if_neg (by omega)]
    have e2 : g.2 (t * 32 + c) = y c := by rw [g3 _ (by omega)]; exact hy c hc
    rw [e1, e2, g1, show y col * x c - x col * y c = NV x y col c from rfl]
    refine common_spec (gc_b c (fun c' hc' => hB c' (by omega))) (hB c hc) (nm ?_)
    rw [nI_1]
    refine ih (lN (Nat.gcd (gc (NV x y col) c) (NV x y col c).toInt.natAbs), vp_updL g.2 (r * 32 + c) (NV x y col c)) ⟨rfl, fun c' hc' => ?_, fun j hj => ?_⟩
    · show vp_updL g.2 (r * 32 + c) (NV x y col c) (r * 32 + c') = _
      by_cases e : c' = c
      · rw [e, pk_uLs, if_pos (by omega)]
      · rw [pk_uLn (by omega), g2 c' hc']
        by_cases d : c' < c
        · rw [if_pos d, if_pos (by omega)]
        · rw [if_neg d, if_neg (by omega)]
    · show vp_updL g.2 (r * 32 + c) (NV x y col c) j = _
      rw [pk_uLn (by omega)]; exact g3 j hj
