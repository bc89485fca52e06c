/-! ===== papers of weights and rounds ===== -/
/-- a flag that says whether all below i are so -/
def fl (A : Nat → Prop) (i : Nat) (v : Int32) : Prop := (v = 1 ∧ ∀ s, s < i → A s) ∨ (v = 0 ∧ ∃ s, s < i ∧ ¬ A s)
theorem fl_0 (A : Nat → Prop) : fl A 0 1 := Or.inl ⟨rfl, fun s hs => absurd hs (by omega)⟩
theorem fl_keep {A : Nat → Prop} {i : Nat} {v : Int32} (h : fl A i v) (hv : v = 0) : fl A (i + 1) 0 := by
  rcases h with ⟨h1, -⟩ | ⟨-, s, hs, hn⟩
  · rw [h1] at hv; exact absurd hv (by decide)
  · exact Or.inr ⟨rfl, s, by omega, hn⟩
theorem fl_yes {A : Nat → Prop} {i : Nat} {v : Int32} (h : fl A i v) (hv : ¬ v = 0) (ha : A i) : fl A (i + 1) 1 := by
  rcases h with ⟨-, h2⟩ | ⟨h1, -⟩
  · refine Or.inl ⟨rfl, fun s hs => ?_⟩
    by_cases e : s = i
    · subst e; exact ha
    · exact h2 s (by omega)
  · exact absurd h1 hv
theorem fl_no {A : Nat → Prop} {i : Nat} (ha : ¬ A i) : fl A (i + 1) 0 := Or.inr ⟨rfl, i, by omega, ha⟩
theorem fl_b {A : Nat → Prop} {i : Nat} {v : Int32} (h : fl A i v) : v &&& 1 = v := by
  rcases h with ⟨rfl, -⟩ | ⟨rfl, -⟩ <;> decide
theorem fl_all {A : Nat → Prop} {i : Nat} {v : Int32} (h : fl A i v) : ¬ v = 0 ↔ ∀ s, s < i → A s := by
  rcases h with ⟨rfl, h⟩ | ⟨rfl, s, hs, hn⟩
  · exact ⟨fun _ => h, fun _ => by decide⟩
  · exact ⟨fun q => absurd rfl q, fun q => absurd (q s hs) hn⟩
def tl (R : Nat) (row : Nat → Int32) (p : Nat) : Int32 := if p < R then row p else 0
def sumF (g : Nat → Int64) : Nat → Int64
  | 0 => 0
  | n + 1 => sumF g n + g n
theorem sumF_congr {f g : Nat → Int64} : ∀ n, (∀ i, i < n → f i = g i) → sumF f n = sumF g n
  | 0, _ => rfl
  | n + 1, h => by
    show sumF f n + f n = sumF g n + g n
    rw [sumF_congr n (fun i hi => h i (by omega)), h n (by omega)]
theorem numberFor_spec {R p : Nat} {row : Nat → Int32} {post : Int32 → Prop} (hR : R ≤ 16) (hp : p < 16) (k : post (tl R row p)) : w_X2_numberFor (nI R) row (nI p) post := by
  unfold tl at k
  by_cases h : p < R
  · rw [if_pos h] at k
    refine hasNumber_yes (nI_pos (by omega)) (nI_ge h (by omega)) (z1 ⟨vp_in_nI hp (by omega), ?_⟩)
    rw [nI_cl (by omega)]; exact k
  · rw [if_neg h] at k
    exact hasNumber_no (Or.inr (nI_le (by omega) (by omega))) (z0 k)
theorem told_spec {R p : Nat} {row : Nat → Int32} {post : Int32 → Prop} (hR : R ≤ 16) (hp : p < 16) (k : post (tl R row p)) : w_X10_told (nI R) row (nI p) post := by
  unfold tl at k
  by_cases h : p < R
  · rw [if_pos h] at k
    refine ff (nI_ge h (by omega)) ⟨vp_in_nI hp (by omega), ?_⟩
    rw [nI_cl (by omega)]; exact k
  · rw [if_neg h] at k
    exact tt (nI_le (by omega) (by omega)) k
theorem changeX_spec {s p : Nat} {pt tk : Nat → Int32} {post : Int32 → Prop} (hs : s < 16) (hp : p < 16) (k : post (pt (16 * s + p) - tk (16 * s + p))) : w_X5_change pt tk (nI s) (nI p) post := by
  unfold w_X5_change w_X9_crossing
  rw [ixC]
  refine ⟨vp_in_nI (by omega) (by omega), vp_in_nI (by omega) (by omega), ?_⟩
  rw [nI_cl (by omega)]; exact k
theorem changeM_spec {s p : Nat} {pt tk : Nat → Int32} {post : Int32 → Prop} (hs : s < 16) (hp : p < 16) (k : post (pt (16 * s + p) - tk (16 * s + p))) : w_X10_change pt tk (nI s) (nI p) post := by
  unfold w_X10_change
  rw [ixA]
  refine ⟨vp_in_nI (by omega) (by omega), vp_in_nI (by omega) (by omega), ?_⟩
  rw [nI_cl (by omega)]; exact k
/-- what a step adds of the row, place by place; a place, step by step -/
def kP (R : Nat) (row pt tk : Nat → Int32) (s p : Nat) : Int64 := (tl R row p).toInt64 * (pt (16 * s + p) - tk (16 * s + p)).toInt64
def kS (R : Nat) (row pt tk : Nat → Int32) (p s : Nat) : Int64 := (tl R row s).toInt64 * (pt (16 * s + p) - tk (16 * s + p)).toInt64
theorem keepsX_in {R P s : Nat} {st : Int32} {row pt tk : Nat → Int32} {post : Int32 → Prop} {K : Int64 → Int32 → Prop} (hR : R ≤ 16) (hP : P ≤ 16) (hs : s < 16) (h : ∀ x, K (sumF (kP R row pt tk s) P) x) : ∃ n : Nat, w_X9_keeps_L18 (nI s) (nI R) (nI P) st row pt tk post K n 0 0 := by
  refine pk_loop (fun n i (g : Int64) => w_X9_keeps_L18 (nI s) (nI R) (nI P) st row pt tk post K n g (nI i)) (fun i g => g = sumF (kP R row pt tk s) i) P 0 0 (by omega) rfl ?_ ?_
  · intro n g hg
    subst hg
    exact tt (nI_le (Nat.le_refl P) (by omega)) (h _)
  · intro n i g hi hg ih
    subst hg
    refine ff (nI_ge hi (by omega)) (numberFor_spec hR (by omega) (changeX_spec hs (by omega) (nm (nm ?_))))
    rw [nI_1]
    exact ih _ rfl
theorem keepsM_in {R P s : Nat} {v st : Int32} {row pt tk : Nat → Int32} {post : Int32 → Prop} {K : Int64 → Int32 → Prop} (hR : R ≤ 16) (hP : P ≤ 16) (hs : s < 16) (h : ∀ x, K (sumF (kP R row pt tk s) P) x) : ∃ n : Nat, w_X10_keeps_L17 v (nI s) (nI P) (nI R) st pt row tk post K n 0 0 := by
  refine pk_loop (fun n i (g : Int64) => w_X10_keeps_L17 v (nI s) (nI P) (nI R) st pt row tk post K n g (nI i)) (fun i g => g = sumF (kP R row pt tk s) i) P 0 0 (by omega) rfl ?_ ?_
  · intro n g hg
    subst hg
    exact tt (nI_le (Nat.le_refl P) (by omega)) (h _)
  · intro n i g hi hg ih
    subst hg
    refine ff (nI_ge hi (by omega)) (told_spec hR (by omega) (changeM_spec hs (by omega) (nm (nm ?_))))
    rw [nI_1]
    exact ih _ rfl
theorem keepsX_spec {R P S : Nat} {row pt tk : Nat → Int32} {post : Int32 → Prop} (hR : R ≤ 16) (hP : P ≤ 16) (hS : S ≤ 16) (h1 : (∀ s, s < S → sumF (kP R row pt tk s) P = 0) → post 1) (h0 : (¬ ∀ s, s < S → sumF (kP R row pt tk s) P = 0) → post 0) : w_X9_keeps (nI R) (nI P) (nI S) row pt tk post := by
  refine pk_loop (fun n i (_ : Unit) => w_X9_keeps_L2 (nI R) (nI P) (nI S) row pt tk post (fun _ => post 1) n (nI i)) (fun i _ => ∀ s, s < i → sumF (kP R row pt tk s) P = 0) S 0 () (by omega) (fun s hs => absurd hs (by omega)) ?_ ?_
  · intro n _ hg
    exact tt (nI_le (Nat.le_refl S) (by omega)) (h1 hg)
  · intro n i _ hi hg ih
    refine ff (nI_ge hi (by omega)) (keepsX_in hR hP (by omega) (fun x => ?_))
    by_cases c : sumF (kP R row pt tk i) P = 0
    · refine tt ((lg_cmp_eq _ _).mpr c) (nm ?_)
      rw [nI_1]
      refine ih () (fun s hs => ?_)
      by_cases e : s = i
      · subst e; exact c
      · exact hg s (by omega)
    · exact ff (fun q => c ((lg_cmp_eq _ _).mp q)) (h0 (fun q => c (q i hi)))
theorem keepsM_spec {R P S : Nat} {row pt tk : Nat → Int32} {post : Int32 → Prop} (hR : R ≤ 16) (hP : P ≤ 16) (hS : S ≤ 16) (h1 : (∀ s, s < S → sumF (kP R row pt tk s) P = 0) → post 1) (h0 : (¬ ∀ s, s < S → sumF (kP R row pt tk s) P = 0) → post 0) : w_X10_keeps (nI P) (nI R) (nI S) pt row tk post := by
  refine pk_loop (fun n i (v : Int32) => w_X10_keeps_L4 (nI P) (nI R) (nI S) pt row tk post (fun v20 _ => (v20 = 0 → post 0) ∧ (¬ v20 = 0 → post 1)) n v (nI i)) (fun i v => fl (fun s => sumF (kP R row pt tk s) P = 0) i v) S 0 1 (by omega) (fl_0 _) ?_ ?_
  · intro n v hg
    refine tt (nI_le (Nat.le_refl S) (by omega)) ⟨fun q => h0 (fun r => (fl_all hg).mpr r q), fun q => h1 ((fl_all hg).mp q)⟩
  · intro n i v hi hg ih
    refine ff (nI_ge hi (by omega)) (keepsM_in hR hP (by omega) (fun x => ⟨fun c => nm ?_, fun c => ?_⟩))
    · rw [nI_1]; exact ih _ (fl_keep hg c)
    · by_cases d : sumF (kP R row pt tk i) P = 0
      · refine nt ((lg_cmp_eq _ _).mpr d) (nm ?_)
        rw [nI_1]; exact ih _ (fl_yes hg c d)
      · refine nf (fun q => d ((lg_cmp_eq _ _).mp q)) (nm ?_)
        rw [nI_1]; exact ih _ (fl_no d)
theorem tl_congr {R : Nat} {f g : Nat → Int32} (hR : R ≤ 16) (h : ∀ i, i < 16 → f i = g i) (p : Nat) : tl R f p = tl R g p := by
  unfold tl
  by_cases e : p < R
  · rw [if_pos e, if_pos e, h p (by omega)]
  · rw [if_neg e, if_neg e]
theorem p_46 : St_46 Inw := by
  intro XI XA XL MI MA ML hI
  obtain ⟨P, S, hq, hN, hW, hPa, hH, -⟩ := id hI
  obtain ⟨R, n, hR, hn, r1, r2, w1, w2, hrow, hway⟩ := hH
  obtain ⟨q9, m0, q10, m1, k5, k27, k29, k24, k16, k4, k31, k10⟩ := id hq
  have hP16 : P ≤ 16 := hN.1.1
  have hS16 : S ≤ 16 := hN.1.2
  have e : kP R (XA 7) (XA 14) (XA 17) = kP R (MA 26) (XA 14) (XA 17) := funext fun s => funext fun p => by
    unfold kP; rw [tl_congr hR hrow p]
  unfold ls_46
  rw [q9, m0, q10, m1, r1, r2, k24, k29]
  refine keepsX_spec hR hP16 hS16 (fun c => ?_) (fun c => ?_)
  · exact keepsM_spec hR hP16 hS16 (fun _ => ⟨rfl, hI⟩) (fun d => absurd (by rw [← e]; exact c) d)
  · exact keepsM_spec hR hP16 hS16 (fun d => absurd (by rw [e]; exact d) c) (fun _ => ⟨rfl, hI⟩)
theorem turnsX_in {R S p : Nat} {pl : Int32} {row pt tk : Nat → Int32} {post : Int32 → Prop} {K : Int64 → Int32 → Prop} (hR : R ≤ 16) (hS : S ≤ 16) (hp : p < 16) (h : ∀ x, K (sumF (kS R row pt tk p) S) x) : ∃ n : Nat, w_X9_turns_L50 (nI p) (nI R) pl (nI S) row pt tk post K n 0 0 := by
  refine pk_loop (fun n i (g : Int64) => w_X9_turns_L50 (nI p) (nI R) pl (nI S) row pt tk post K n g (nI i)) (fun i g => g = sumF (kS R row pt tk p) i) S 0 0 (by omega) rfl ?_ ?_
  · intro n g hg
    subst hg
    exact tt (nI_le (Nat.le_refl S) (by omega)) (h _)
  · intro n i g hi hg ih
    subst hg
    refine ff (nI_ge hi (by omega)) (numberFor_spec hR (by omega) (changeX_spec (by omega) hp (nm (nm ?_))))
    rw [nI_1]
    exact ih _ rfl
theorem turnsM_in {R S p : Nat} {v pl : Int32} {row pt tk : Nat → Int32} {post : Int32 → Prop} {K : Int64 → Int32 → Prop} (hR : R ≤ 16) (hS : S ≤ 16) (hp : p < 16) (h : ∀ x, K (sumF (kS R row pt tk p) S) x) : ∃ n : Nat, w_X10_turns_L51 v (nI p) pl (nI R) (nI S) pt row tk post K n 0 0 := by
  refine pk_loop (fun n i (g : Int64) => w_X10_turns_L51 v (nI p) pl (nI R) (nI S) pt row tk post K n g (nI i)) (fun i g => g = sumF (kS R row pt tk p) i) S 0 0 (by omega) rfl ?_ ?_
  · intro n g hg
    subst hg
    exact tt (nI_le (Nat.le_refl S) (by omega)) (h _)
  · intro n i g hi hg ih
    subst hg
    refine ff (nI_ge hi (by omega)) (told_spec hR (by omega) (changeM_spec (by omega) hp (nm (nm ?_))))
    rw [nI_1]
    exact ih _ rfl
theorem turnsX_spec {R P S : Nat} {row pt tk : Nat → Int32} {post : Int32 → Prop} (hR : R ≤ 16) (hP : P ≤ 16) (hS : S ≤ 16) (h1 : (∀ s, s < S → ¬ tl R row s < 0) → (∀ p, p < P → sumF (kS R row pt tk p) S = 0) → post 1) (h0 : ¬ ((∀ s, s < S → ¬ tl R row s < 0) ∧ ∀ p, p < P → sumF (kS R row pt tk p) S = 0) → post 0) : w_X9_turns (nI R) (nI P) (nI S) row pt tk post := by
  refine pk_loop (fun n i (_ : Unit) => w_X9_turns_L2 (nI R) (nI P) (nI S) row pt tk post (fun _ => ∃ n : Nat, w_X9_turns_L34 (nI R) (nI P) (nI S) row pt tk post (fun _ => post 1) n 0) n (nI i)) (fun i _ => ∀ s, s < i → ¬ tl R row s < 0) S 0 () (by omega) (fun s hs => absurd hs (by omega)) ?_ ?_
  · intro n _ hA
    refine tt (nI_le (Nat.le_refl S) (by omega)) ?_
    refine pk_loop (fun n i (_ : Unit) => w_X9_turns_L34 (nI R) (nI P) (nI S) row pt tk post (fun _ => post 1) n (nI i)) (fun i _ => ∀ p, p < i → sumF (kS R row pt tk p) S = 0) P 0 () (by omega) (fun s hs => absurd hs (by omega)) ?_ ?_
    · intro n _ hg
      exact tt (nI_le (Nat.le_refl P) (by omega)) (h1 hA hg)
    · intro n i _ hi hg ih
      refine ff (nI_ge hi (by omega)) (turnsX_in hR hS (by omega) (fun x => ?_))
      by_cases c : sumF (kS R row pt tk i) S = 0
      · refine tt ((lg_cmp_eq _ _).mpr c) (nm ?_)
        rw [nI_1]
        refine ih () (fun s hs => ?_)
        by_cases e : s = i
        · subst e; exact c
        · exact hg s (by omega)
      · exact ff (fun q => c ((lg_cmp_eq _ _).mp q)) (h0 (fun q => c (q.2 i hi)))
  · intro n i _ hi hg ih
    refine ff (nI_ge hi (by omega)) (numberFor_spec hR (by omega) ?_)
    by_cases c : tl R row i < 0
    · exact ff (Int32.not_le.mpr c) (h0 (fun q => q.1 i hi c))
    · refine tt (Int32.not_lt.mp c) (nm ?_)
      rw [nI_1]
      refine ih () (fun s hs => ?_)
      by_cases e : s = i
      · subst e; exact c
      · exact hg s (by omega)
theorem turnsM_spec {R P S : Nat} {row pt tk : Nat → Int32} {post : Int32 → Prop} (hR : R ≤ 16) (hP : P ≤ 16) (hS : S ≤ 16) (h1 : (∀ s, s < S → ¬ tl R row s < 0) → (∀ p, p < P → sumF (kS R row pt tk p) S = 0) → post 1) (h0 : ¬ ((∀ s, s < S → ¬ tl R row s < 0) ∧ ∀ p, p < P → sumF (kS R row pt tk p) S = 0) → post 0) : w_X10_turns (nI P) (nI R) (nI S) pt row tk post := by
  refine pk_loop (fun n i (v : Int32) => w_X10_turns_L4 (nI P) (nI R) (nI S) pt row tk post (fun v12 _ => ∃ n : Nat, w_X10_turns_L38 (nI P) (nI R) (nI S) pt row tk post (fun v33 _ => (v33 = 0 → post 0) ∧ (¬ v33 = 0 → post 1)) n v12 0) n v (nI i)) (fun i v => fl (fun s => ¬ tl R row s < 0) i v) S 0 1 (by omega) (fl_0 _) ?_ ?_
  · intro n v hA
    refine tt (nI_le (Nat.le_refl S) (by omega)) ?_
    -- the second flag begins with the first one's value
    refine pk_loop (fun n i (v' : Int32) => w_X10_turns_L38 (nI P) (nI R) (nI S) pt row tk post (fun v33 _ => (v33 = 0 → post 0) ∧ (¬ v33 = 0 → post 1)) n v' (nI i)) (fun i v' => (v' = 0 ∨ v' = 1) ∧ (¬ v' = 0 ↔ ((∀ s, s < S → ¬ tl R row s < 0) ∧ ∀ p, p < i → sumF (kS R row pt tk p) S = 0))) P 0 v (by omega) ⟨by rcases hA with ⟨q, -⟩ | ⟨q, -⟩; exact Or.inr q; exact Or.inl q, ⟨fun q => ⟨(fl_all hA).mp q, fun p hp => absurd hp (by omega)⟩, fun q => (fl_all hA).mpr q.1⟩⟩ ?_ ?_
    · intro n v' hg
      exact tt (nI_le (Nat.le_refl P) (by omega)) ⟨fun q => h0 (fun r => (hg.2.mpr r) q), fun q => h1 (hg.2.mp q).1 (hg.2.mp q).2⟩
    · intro n i v' hi hg ih
      refine ff (nI_ge hi (by omega)) (turnsM_in hR hS (by omega) (fun x => ⟨fun c => nm ?_, fun c => ?_⟩))
      · rw [nI_1]
        refine ih _ ⟨Or.inl rfl, ⟨fun q => absurd rfl q, fun q => absurd c (hg.2.mpr ⟨q.1, fun p hp => q.2 p (by omega)⟩)⟩⟩
      · by_cases d : sumF (kS R row pt tk i) S = 0
        · refine nt ((lg_cmp_eq _ _).mpr d) (nm ?_)
          rw [nI_1]
          refine ih _ ⟨Or.inr rfl, ⟨fun _ => ⟨(hg.2.mp c).1, fun p hp => ?_⟩, fun _ => by decide⟩⟩
          by_cases e : p = i
          · subst e; exact d
          · exact (hg.2.mp c).2 p (by omega)
        · refine nf (fun q => d ((lg_cmp_eq _ _).mp q)) (nm ?_)
          rw [nI_1]
          exact ih _ ⟨Or.inl rfl, ⟨fun q => absurd rfl q, fun q => absurd (q.2 i (by omega)) d⟩⟩
  · intro n i v hi hg ih
    refine ff (nI_ge hi (by omega)) ⟨fun c => nm ?_, fun c => told_spec hR (by omega) ?_⟩
    · rw [nI_1]; exact ih _ (fl_keep hg c)
    · by_cases d : tl R row i < 0
      · refine tt d (nm ?_)
        rw [nI_1]; exact ih _ (fl_no (fun q => q d))
      · refine ff d (nm ?_)
        rw [nI_1]; exact ih _ (fl_yes hg c d)
theorem p_47 : St_47 Inw := by
  intro XI XA XL MI MA ML hI
  obtain ⟨P, S, hq, hN, hW, hPa, hH, -⟩ := id hI
  obtain ⟨R, n, hR, hn, r1, r2, w1, w2, hrow, hway⟩ := hH
  obtain ⟨q9, m0, q10, m1, k5, k27, k29, k24, k16, k4, k31, k10⟩ := id hq
  have hP16 : P ≤ 16 := hN.1.1
  have hS16 : S ≤ 16 := hN.1.2
  have et : tl R (XA 7) = tl R (MA 26) := funext fun p => tl_congr hR hrow p
  have e : kS R (XA 7) (XA 14) (XA 17) = kS R (MA 26) (XA 14) (XA 17) := funext fun s => funext fun p => by
    unfold kS; rw [et]
  unfold ls_47
  rw [q9, m0, q10, m1, r1, r2, k24, k29]
  refine turnsX_spec hR hP16 hS16 (fun c1 c2 => ?_) (fun c => ?_)
  · rw [et] at c1
    rw [e] at c2
    exact turnsM_spec hR hP16 hS16 (fun _ _ => ⟨rfl, hI⟩) (fun d => absurd ⟨c1, c2⟩ d)
  · rw [et, e] at c
    exact turnsM_spec hR hP16 hS16 (fun d1 d2 => absurd ⟨d1, d2⟩ c) (fun _ => ⟨rfl, hI⟩)
