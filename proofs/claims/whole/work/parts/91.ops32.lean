/-! ===== weights and rounds: the rows laid, the rest kept ===== -/
theorem ix48 (a b : Nat) : nI a * (32 : Int32) + (16 : Int32) + nI b = nI (a * 32 + 16 + b) := by rw [show (32 : Int32) = nI 32 from rfl, show (16 : Int32) = nI 16 from rfl, pk_mul, nI_add, nI_add]
theorem ix48' (a b : Nat) : (32 : Int32) * nI a + (16 : Int32) + nI b = nI (a * 32 + 16 + b) := by rw [show (32 : Int32) = nI 32 from rfl, show (16 : Int32) = nI 16 from rfl, pk_mul, nI_add, nI_add, Nat.mul_comm]
theorem fillL_spec {N : Nat} {a1 : Int64} {f : Nat → Int64} {post : (Nat → Int64) → Prop} (hN : N < 2 ^ 31) (h : ∀ g, (∀ j, j < N → g j = a1) → post g) : w_J7_fill_d0a16 N f a1 post := by
  refine nm ?_
  refine pk_loop (fun n i (g : Nat → Int64) => w_J7_fill_d0a16_L6 N a1 (nI N) post (fun _ s7 => post s7) n (nI i) g) (fun i g => ∀ j, j < i → g j = a1) N 0 f (by omega) (fun j hj => absurd hj (by omega)) ?_ ?_
  · intro n g hg
    exact tt (nI_le (Nat.le_refl N) (by omega)) (h g hg)
  · intro n i g hi hg ih
    refine ff (nI_ge hi (by omega)) ⟨vp_in_nI hi hN, nm ?_⟩
    rw [nI_1, nI_cl (n := i) (by omega)]
    refine ih _ (fun j hj => ?_)
    by_cases e : j = i
    · rw [e, pk_uLs]
    · rw [pk_uLn e]; exact hg j (by omega)
def chg (fl : Int32) (pt tk : Nat → Int32) (r c : Nat) : Int32 := if fl = 0 then pt (16 * r + c) - tk (16 * r + c) else pt (16 * c + r) - tk (16 * c + r)
def LV (C : Nat) (fl : Int32) (pt tk : Nat → Int32) (r c : Nat) : Int64 := if c < C then (chg fl pt tk r c).toInt64 else if c = 16 + r then 1 else 0
theorem chg_B {fl : Int32} {pt tk : Nat → Int32} {r c : Nat} (hr : r < 16) (hc : c < 16) (h1 : ∀ i, i < 256 → ∃ v : Nat, v ≤ 9 ∧ tk i = nI v) (h2 : ∀ i, i < 256 → ∃ v : Nat, v ≤ 9 ∧ pt i = nI v) : B9 (chg fl pt tk r c).toInt64 := by
  have key : ∀ i, i < 256 → B9 (pt i - tk i).toInt64 := fun i hi => by
    obtain ⟨u, hu, eu⟩ := h2 i hi
    obtain ⟨v, hv, ev⟩ := h1 i hi
    unfold B9
    rw [Int32.toInt_toInt64, eu, ev, Int32.toInt_sub, nI_toInt (by omega), nI_toInt (by omega), Int.bmod_eq_of_le (by omega) (by omega)]
    omega
  unfold chg
  split
  · exact key _ (by omega)
  · exact key _ (by omega)
theorem LV_B {C : Nat} {fl : Int32} {pt tk : Nat → Int32} {r c : Nat} (hC : C ≤ 16) (hr : r < 16) (h1 : ∀ i, i < 256 → ∃ v : Nat, v ≤ 9 ∧ tk i = nI v) (h2 : ∀ i, i < 256 → ∃ v : Nat, v ≤ 9 ∧ pt i = nI v) : B9 (LV C fl pt tk r c) := by
  unfold LV
  split
  · exact chg_B hr (by omega) h1 h2
  · split
    · exact ⟨by decide, by decide⟩
    · exact ⟨by decide, by decide⟩
theorem layX {n C : Nat} {fl sz pl st : Int32} {fd out pt tk : Nat → Int32} {cells : Nat → Int64} {post : Int32 → Int32 → Int32 → (Nat → Int64) → (Nat → Int32) → (Nat → Int32) → Prop} {K : Int32 → (Nat → Int64) → Prop} (hn : n ≤ 16) (hC : C ≤ 16) (hz : ∀ j, j < 512 → cells j = 0) (h : ∀ z cells', (∀ r c, r < n → c < 32 → cells' (r * 32 + c) = LV C fl pt tk r c) → K z cells') : ∃ f : Nat, w_X0_solve_L59 fl (nI C) (nI n) sz pl st fd out pt tk post K f 0 cells := by
  refine pk_loop (fun f r (g : Nat → Int64) => w_X0_solve_L59 fl (nI C) (nI n) sz pl st fd out pt tk post K f (nI r) g) (fun r g => (∀ r' c, r' < r → c < 32 → g (r' * 32 + c) = LV C fl pt tk r' c) ∧ ∀ j, r * 32 ≤ j → j < 512 → g j = 0) n 0 cells (by omega) ⟨fun r' c hr' => absurd hr' (by omega), fun j _ hj => hz j hj⟩ ?_ ?_
  · intro f g hg
    exact tt (nI_le (Nat.le_refl n) (by omega)) (h _ g hg.1)
  · intro f r g hr hg ih
    refine ff (nI_ge hr (by omega)) ?_
    refine pk_loop (fun f c (g' : Nat → Int64) => w_X0_solve_L71 fl (nI C) (nI r) (nI n) sz pl st fd out pt tk post _ f (nI c) g') (fun c g' => (∀ c', c' < c → g' (r * 32 + c') = LV C fl pt tk r c') ∧ (∀ j, j < r * 32 → g' j = g j) ∧ (∀ j, r * 32 + c ≤ j → j < 512 → g' j = 0)) C 0 g (by omega) ⟨fun c' hc' => absurd hc' (by omega), fun _ _ => rfl, fun j h1 h2 => hg.2 j (by omega) h2⟩ ?_ ?_
    · intro f g' hg'
      obtain ⟨b1, b2, b3⟩ := hg'
      refine tt (nI_le (Nat.le_refl C) (by omega)) ?_
      rw [ix48]
      refine ⟨vp_in_nI (by omega) (by omega), nm ?_⟩
      rw [nI_1, nI_cl (n := r * 32 + 16 + r) (by omega)]
      refine ih _ ⟨fun r' c hr' hc => ?_, fun j h1 h2 => ?_⟩
      · by_cases e : r' = r
        · rw [e]
          by_cases e2 : c = 16 + r
          · rw [e2, show r * 32 + (16 + r) = r * 32 + 16 + r by omega, pk_uLs]
            unfold LV
            rw [if_neg (by omega), if_pos rfl]
          · rw [pk_uLn (by omega)]
            by_cases e3 : c < C
            · exact b1 c e3
            · rw [b3 _ (by omega) (by omega)]
              unfold LV
              rw [if_neg e3, if_neg e2]
        · rw [pk_uLn (by omega), b2 _ (by omega)]; exact hg.1 r' c (by omega) hc
      · rw [pk_uLn (by omega)]; exact b3 j (by omega) h2
    · intro f c g' hc hg' ih'
      obtain ⟨b1, b2, b3⟩ := hg'
      refine ff (nI_ge hc (by omega)) ?_
      have nxt : ∀ v : Int32, v = chg fl pt tk r c → (vp_in (nI r * (32 : Int32) + nI c) 512 ∧ ∀ x14 : Int32, x14 = nI c + (1 : Int32) → w_X0_solve_L71 fl (nI C) (nI r) (nI n) sz pl st fd out pt tk post (fun v18 s19 => vp_in (nI r * (32 : Int32) + (16 : Int32) + nI r) 512 ∧ ∀ x20 : Int32, x20 = nI r + (1 : Int32) → w_X0_solve_L59 fl (nI C) (nI n) sz pl st fd out pt tk post K _ x20 (vp_updL s19 (nI r * (32 : Int32) + (16 : Int32) + nI r).toNatClampNeg 1)) f x14 (vp_updL g' (nI r * (32 : Int32) + nI c).toNatClampNeg v.toInt64)) := fun v hv => by
        rw [ix32]
        refine ⟨vp_in_nI (by omega) (by omega), nm ?_⟩
        rw [nI_1 c, nI_cl (n := r * 32 + c) (by omega)]
        refine ih' _ ⟨fun c' hc' => ?_, fun j hj => ?_, fun j h1 h2 => ?_⟩
        · by_cases e : c' = c
          · rw [e, pk_uLs, hv]
            unfold LV
            rw [if_pos hc]
          · rw [pk_uLn (by omega)]; exact b1 c' (by omega)
        · rw [pk_uLn (by omega)]; exact b2 j hj
        · rw [pk_uLn (by omega)]; exact b3 j (by omega) h2
      by_cases q : fl = 0
      · exact tt q (changeX_spec (by omega) (by omega) (nxt _ (if_pos q).symm))
      · exact ff q (changeX_spec (by omega) (by omega) (nxt _ (if_neg q).symm))
theorem layM {n C : Nat} {fl : Int32} {isOut pt tk : Nat → Int32} {rows : Nat → Int64} {post : (Nat → Int32) → (Nat → Int64) → Prop} (hn : n ≤ 16) (hC : C ≤ 16) (h : ∀ isOut' rows', (∀ r, r < 16 → isOut' r = 0) → (∀ r c, r < n → c < 32 → rows' (r * 32 + c) = LV C fl pt tk r c) → post isOut' rows') : w_X10_layRows isOut pt rows tk (nI n) (nI C) fl post := by
  refine pk_loop (σ := (Nat → Int32) × (Nat → Int64)) (fun f r g => w_X10_layRows_L3 (nI n) (nI C) fl pt tk post (fun _ s28 s29 => post s28 s29) f (nI r) g.1 g.2) (fun r g => (∀ r', r' < r → g.1 r' = 0) ∧ ∀ r' c, r' < r → r' < n → c < 32 → g.2 (r' * 32 + c) = LV C fl pt tk r' c) 16 0 (isOut, rows) (by omega) ⟨fun r' hr' => absurd hr' (by omega), fun r' c hr' => absurd hr' (by omega)⟩ ?_ ?_
  · intro f g hg
    exact tt (nI_le (b := 16) (Nat.le_refl 16) (by omega)) (h _ _ hg.1 (fun r c hr hc => hg.2 r c (by omega) hr hc))
  · intro f r g hr hg ih
    refine ff (nI_ge (b := 16) hr (by omega)) ⟨vp_in_nI hr (by omega), ?_⟩
    rw [nI_cl (n := r) (by omega), nar0]
    refine pk_loop (fun f c (g' : Nat → Int64) => w_X10_layRows_L21 (nI n) (nI C) fl (nI r) (upd g.1 r 0) pt tk post _ f (nI c) g') (fun c g' => (∀ c', c' < c → g' (r * 32 + c') = if c' = 16 + r then 1 else 0) ∧ (∀ j, j < r * 32 → g' j = g.2 j)) 32 0 g.2 (by omega) ⟨fun c' hc' => absurd hc' (by omega), fun _ _ => rfl⟩ ?_ ?_
    · intro f1 g1 hg1
      refine tt (nI_le (b := 32) (Nat.le_refl 32) (by omega)) ?_
      have fin : ∀ g2 : Nat → Int64, (∀ j, j < r * 32 → g2 j = g.2 j) → (r < n → ∀ c, c < 32 → g2 (r * 32 + c) = LV C fl pt tk r c) → ∀ x25 : Int32, x25 = nI r + (1 : Int32) → w_X10_layRows_L3 (nI n) (nI C) fl pt tk post (fun _ s28 s29 => post s28 s29) f x25 (upd g.1 r 0) g2 := fun g2 q1 q2 => nm (by
        rw [nI_1]
        refine ih (upd g.1 r 0, g2) ⟨fun r' hr' => ?_, fun r' c hr' hn' hc => ?_⟩
        · show upd g.1 r 0 r' = 0
          by_cases e : r' = r
          · rw [e, pk_us]
          · rw [pk_un e]; exact hg.1 r' (by omega)
        · show g2 _ = _
          by_cases e : r' = r
          · rw [e]; exact q2 (by omega) c hc
          · rw [q1 _ (by omega)]; exact hg.2 r' c (by omega) hn' hc)
      refine pk_loop (fun f c (g' : Nat → Int64) => w_X10_layRows_L65 (nI n) (nI C) fl (nI r) (upd g.1 r 0) pt tk post _ f (nI c) g') (fun c g' => (r < n → ∀ c', c' < 32 → g' (r * 32 + c') = if c' < c then LV C fl pt tk r c' else if c' = 16 + r then 1 else 0) ∧ (∀ j, j < r * 32 → g' j = g.2 j)) C 0 g1 (by omega) ⟨fun _ c' hc' => by rw [if_neg (by omega)]; exact hg1.1 c' hc', hg1.2⟩ ?_ ?_
      · intro f2 g2 hg2
        refine tt (nI_le (Nat.le_refl C) (by omega)) (fin g2 hg2.2 (fun hrn c hc => ?_))
        rw [hg2.1 hrn c hc]
        by_cases e : c < C
        · rw [if_pos e]
        · rw [if_neg e]
          unfold LV
          rw [if_neg e]
      · intro f2 c g2 hc hg2 ih2
        refine ff (nI_ge hc (by omega)) ?_
        by_cases hrn : r < n
        · refine ff (nI_ge hrn (by omega)) ?_
          have nxt : ∀ v : Int32, v = chg fl pt tk r c → (∀ c', c' < 32 → vp_updL g2 (r * 32 + c) v.toInt64 (r * 32 + c') = if c' < c + 1 then LV C fl pt tk r c' else if c' = 16 + r then 1 else 0) ∧ ∀ j, j < r * 32 → vp_updL g2 (r * 32 + c) v.toInt64 j = g.2 j := fun v hv => by
            refine ⟨fun c' hc' => ?_, fun j hj => by rw [pk_uLn (by omega)]; exact hg2.2 j hj⟩
            by_cases e : c' = c
            · rw [e, pk_uLs, if_pos (by omega), hv]
              unfold LV
              rw [if_pos hc]
            · rw [pk_uLn (by omega), hg2.1 hrn c' hc']
              by_cases d : c' < c
              · rw [if_pos d, if_pos (by omega)]
              · rw [if_neg d, if_neg (show ¬ c' < c + 1 by omega)]
          by_cases q : fl = 0
          · refine tt q (changeM_spec (by omega) (by omega) ?_)
            rw [ix32']
            refine ⟨vp_in_nI (by omega) (by omega), nm ?_⟩
            rw [nI_1 c, nI_cl (n := r * 32 + c) (by omega)]
            exact ih2 _ ⟨fun _ => (nxt _ (if_pos q).symm).1, (nxt _ (if_pos q).symm).2⟩
          · refine ff q (changeM_spec (by omega) (by omega) ?_)
            rw [ix32']
            refine ⟨vp_in_nI (by omega) (by omega), nm ?_⟩
            rw [nI_1 c, nI_cl (n := r * 32 + c) (by omega)]
            exact ih2 _ ⟨fun _ => (nxt _ (if_neg q).symm).1, (nxt _ (if_neg q).symm).2⟩
        · exact tt (nI_le (by omega) (by omega)) (fin g2 hg2.2 (fun w => absurd w hrn))
    · intro f1 c g1 hc hg1 ih1
      refine ff (nI_ge (b := 32) hc (by omega)) ?_
      rw [ix32', nI_cl (n := r * 32 + c) (by omega), show (16 : Int32) + nI r = nI (16 + r) from nI_add 16 r]
      have hin : vp_in (nI (r * 32 + c)) 512 := vp_in_nI (by omega) (by omega)
      have nxt : ∀ v : Int64, v = (if c = 16 + r then 1 else 0) → ((∀ c', c' < c + 1 → vp_updL g1 (r * 32 + c) v (r * 32 + c') = if c' = 16 + r then 1 else 0) ∧ (∀ j, j < r * 32 → vp_updL g1 (r * 32 + c) v j = g.2 j)) := fun v hv => by
        refine ⟨fun c' hc' => ?_, fun j hj => by rw [pk_uLn (by omega)]; exact hg1.2 j hj⟩
        by_cases e : c' = c
        · rw [e, pk_uLs]; exact hv
        · rw [pk_uLn (by omega)]; exact hg1.1 c' (by omega)
      by_cases e : c = 16 + r
      · refine nt (by rw [e]) ⟨hin, nm ?_⟩
        rw [nI_1 c]; exact ih1 _ (nxt _ (if_pos e).symm)
      · refine nf (fun q => e (nI_inj (by omega) (by omega) q)) ⟨hin, nm ?_⟩
        rw [nI_1 c]; exact ih1 _ (nxt _ (if_neg e).symm)
