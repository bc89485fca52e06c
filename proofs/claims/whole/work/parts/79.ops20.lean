/-! ===== dead ===== -/
def cD (D : Nat → Prop) [DecidablePred D] : Nat → Nat
  | 0 => 0
  | i + 1 => cD D i + (if D i then 1 else 0)
theorem cD_le (D : Nat → Prop) [DecidablePred D] : ∀ i, cD D i ≤ i
  | 0 => Nat.le_refl 0
  | i + 1 => by
    have := cD_le D i
    show cD D i + (if D i then 1 else 0) ≤ i + 1
    split <;> omega
theorem cD_mono (D : Nat → Prop) [DecidablePred D] {i : Nat} : ∀ j, i ≤ j → cD D i ≤ cD D j
  | 0, h => by
    have : i = 0 := by omega
    subst this; exact Nat.le_refl _
  | j + 1, h => by
    by_cases e : i = j + 1
    · subst e; exact Nat.le_refl _
    · have := cD_mono D (i := i) j (by omega)
      show cD D i ≤ cD D j + (if D j then 1 else 0)
      omega
theorem cD_inj {D : Nat → Prop} [DecidablePred D] {i j : Nat} (hi : D i) (hj : D j) (h : cD D i = cD D j) : i = j := by
  rcases Nat.lt_trichotomy i j with c | c | c
  · have h1 := cD_mono D (i := i + 1) j (by omega)
    have h2 : cD D (i + 1) = cD D i + 1 := by show cD D i + (if D i then 1 else 0) = _; rw [if_pos hi]
    omega
  · exact c
  · have h1 := cD_mono D (i := j + 1) i (by omega)
    have h2 : cD D (j + 1) = cD D j + 1 := by show cD D j + (if D j then 1 else 0) = _; rw [if_pos hj]
    omega
/-- the k-th one, or none -/
def KTH (D : Nat → Prop) [DecidablePred D] (n k : Nat) (r : Int32) : Prop := (∃ i, i < n ∧ D i ∧ cD D i = k ∧ r = nI i) ∨ ((∀ i, i < n → ¬ (D i ∧ cD D i = k)) ∧ r = NONE)
theorem KTH_uniq {D : Nat → Prop} [DecidablePred D] {n k : Nat} {r r' : Int32} (h : KTH D n k r) (h' : KTH D n k r') : r = r' := by
  rcases h with ⟨i, i1, i2, i3, i4⟩ | ⟨i1, i2⟩
  · rcases h' with ⟨j, j1, j2, j3, j4⟩ | ⟨j1, j2⟩
    · rw [i4, j4, cD_inj i2 j2 (i3.trans j3.symm)]
    · exact absurd ⟨i2, i3⟩ (j1 i i1)
  · rcases h' with ⟨j, j1, j2, j3, j4⟩ | ⟨j1, j2⟩
    · exact absurd ⟨j2, j3⟩ (i1 j j1)
    · rw [i2, j2]
abbrev DEAD (S : Nat) (nexts : Nat → Int32) (i : Nat) : Prop := ∀ s, s < S → nexts (i * S + s) = NONE
theorem none_neg : NONE < 0 := by decide
theorem nI_none {j : Nat} (h : j < 2 ^ 31) : ¬ nI j = NONE := fun q => by
  have := none_neg
  rw [← q] at this
  exact nI_pos h this
theorem isDeadX {S n i : Nat} {nexts : Nat → Int32} {post : Int32 → Prop} (hS : S ≤ 16) (hn : n ≤ 8000) (hi : i < n) (hr : ∀ s, s < S → nexts (i * S + s) = NONE ∨ ∃ a : Nat, a < n ∧ nexts (i * S + s) = nI a) (h1 : DEAD S nexts i → post 1) (h0 : ¬ DEAD S nexts i → post 0) : w_X1_isDeadAt (nI S) nexts (nI i) post := by
  refine pk_loop (fun f k (_ : Unit) => w_X1_isDeadAt_L2 (nI i) (nI S) nexts post (fun _ => post 1) f (nI k)) (fun k _ => ∀ s, s < k → nexts (i * S + s) = NONE) S 0 () (by omega) (fun s hs => absurd hs (by omega)) ?_ ?_
  · intro f _ hg
    exact tt (nI_le (Nat.le_refl S) (by omega)) (h1 hg)
  · intro f k _ hk hg ih
    have hx := mul_in (n := 8000) (show i < 8000 by omega) hk hS
    refine ff (nI_ge hk (by omega)) ?_
    unfold w_X1_leadsFrom
    rw [ixB]
    refine ⟨vp_in_nI (by omega) (by omega), ?_⟩
    rw [nI_cl (n := i * S + k) (by omega)]
    rcases hr k hk with e | ⟨a, ha, e⟩
    · rw [e]
      refine tt none_neg (nm ?_)
      rw [nI_1]
      refine ih () (fun s hs => ?_)
      by_cases es : s = k
      · subst es; exact e
      · exact hg s (by omega)
    · rw [e]
      exact ff (nI_pos (by omega)) (h0 (fun q => nI_none (by omega) (e.symm.trans (q k hk))))
theorem isDeadM {S i : Nat} {next : Nat → Int32} {post : Int32 → Prop} (hS : S ≤ 16) (hi : i < 8000) (h1 : (∀ s, s < S → next (16 * i + s) = NONE) → post 1) (h0 : (¬ ∀ s, s < S → next (16 * i + s) = NONE) → post 0) : w_X10_isDead (nI S) next (nI i) post := by
  refine pk_loop (fun f k (v : Int32) => w_X10_isDead_L4 (nI i) (nI S) next post (fun v11 _ => v11 &&& 1 = v11 ∧ post v11) f v (nI k)) (fun k v => fl (fun s => next (16 * i + s) = NONE) k v) S 0 1 (by omega) (fl_0 _) ?_ ?_
  · intro f v hg
    refine tt (nI_le (Nat.le_refl S) (by omega)) ⟨fl_b hg, ?_⟩
    by_cases c : v = 0
    · rw [c]; exact h0 (fun q => (fl_all hg).mpr q c)
    · have h := h1 ((fl_all hg).mp c)
      rcases hg with ⟨e, -⟩ | ⟨e, -⟩
      · rw [e]; exact h
      · exact absurd e c
  · intro f k v hk hg ih
    refine ff (nI_ge hk (by omega)) ⟨fun c => nm ?_, fun c => ?_⟩
    · rw [nI_1]; exact ih _ (fl_keep hg c)
    · rw [ixA]
      refine ⟨vp_in_nI (by omega) (by omega), ?_⟩
      rw [nI_cl (n := 16 * i + k) (by omega)]
      by_cases d : next (16 * i + k) = NONE
      · refine nt d (nm ?_)
        rw [nI_1]; exact ih _ (fl_yes hg c d)
      · refine nf d (nm ?_)
        rw [nI_1]; exact ih _ (fl_no d)
theorem p_31 : St_31 Inw := by
  intro XI XA XL MI MA ML hI a1
  obtain ⟨P, S, hq, hN, hW, hPa, hH, hg, hF, hT, hb1, hb2, hs⟩ := id hI
  have hS16 : S ≤ 16 := hN.1.2
  unfold ls_31 w_X9_dead w_X10_dead
  by_cases c0 : ¬ 0 ≤ a1
  · exact ff c0 (ff c0 ⟨rfl, hI⟩)
  have c0 := Decidable.not_not.mp c0
  refine tt c0 ?_
  rcases id hF with ⟨f1, f2, f3⟩ | ⟨f1, f2, n, f3, f4, f5, f6, f7⟩
  · rw [f1, f2]
    exact tt rfl (tt c0 (nt rfl ⟨rfl, hI⟩))
  rw [f1, f2, f3, f4, f6, hq.2.2.2.1]
  obtain ⟨r1, r2, r3, r4, r5, r6, r7, r8, r9⟩ := f7
  obtain ⟨kk, hkk, rfl⟩ := nI_of (Int32.not_lt.mpr c0)
  refine ff (by decide) ?_
  have hM : ∀ r : Int32, KTH (DEAD S (XA 34)) n kk r → ∃ f : Nat, w_X10_dead_L21 (nI kk) (nI n) 1 (nI S) (MA 17) (fun r2 => r = r2 ∧ Inw XI XA XL MI MA ML) (fun _ _ => r = (-2000000005 : Int32) ∧ Inw XI XA XL MI MA ML) f (0 : Int32) (0 : Int32) := by
    intro r hr
    refine pk_loop (fun f i (v : Int32) => w_X10_dead_L21 (nI kk) (nI n) 1 (nI S) (MA 17) (fun r2 => r = r2 ∧ Inw XI XA XL MI MA ML) (fun _ _ => r = (-2000000005 : Int32) ∧ Inw XI XA XL MI MA ML) f v (nI i)) (fun i v => v = nI (cD (DEAD S (XA 34)) i) ∧ ∀ j, j < i → ¬ (DEAD S (XA 34) j ∧ cD (DEAD S (XA 34)) j = kk)) n 0 0 (by omega) ⟨rfl, fun j hj => absurd hj (by omega)⟩ ?_ ?_
    · intro f v hv
      exact tt (nI_le (Nat.le_refl n) (by omega)) ⟨KTH_uniq hr (Or.inr ⟨hv.2, rfl⟩), hI⟩
    · intro f i v hi hv ih
      have hd : DEAD S (XA 34) i ↔ ∀ s, s < S → MA 17 (16 * i + s) = NONE := ⟨fun q s hs => (r3 i s hi hs).1.symm.trans (q s hs), fun q s hs => (r3 i s hi hs).1.trans (q s hs)⟩
      have hle := cD_le (DEAD S (XA 34)) i
      have nxt : ¬ (DEAD S (XA 34) i ∧ cD (DEAD S (XA 34)) i = kk) → ∀ j, j < i + 1 → ¬ (DEAD S (XA 34) j ∧ cD (DEAD S (XA 34)) j = kk) := fun q j hj => by
        by_cases e : j = i
        · subst e; exact q
        · exact hv.2 j (by omega)
      refine ff (nI_ge hi (by omega)) (isDeadM hS16 (by omega) (fun q => z1 ?_) (fun q => z0 (nm ?_)))
      · have q := hd.mpr q
        rw [hv.1]
        by_cases c : cD (DEAD S (XA 34)) i = kk
        · exact nt (by rw [c]) ⟨KTH_uniq hr (Or.inl ⟨i, hi, q, c, rfl⟩), hI⟩
        · refine nf (fun h => c (nI_inj (by omega) hkk h)) (nm (nm ?_))
          rw [nI_1, nI_1]
          exact ih _ ⟨by show nI (_ + 1) = nI (cD (DEAD S (XA 34)) i + (if DEAD S (XA 34) i then 1 else 0)); rw [if_pos q], nxt (fun h => c h.2)⟩
      · have q : ¬ DEAD S (XA 34) i := fun h => q (hd.mp h)
        rw [nI_1]
        exact ih _ ⟨by rw [hv.1]; show nI _ = nI (cD (DEAD S (XA 34)) i + (if DEAD S (XA 34) i then 1 else 0)); rw [if_neg q]; rfl, nxt (fun h => q h.1)⟩
  have fin : ∀ r : Int32, KTH (DEAD S (XA 34)) n kk r → ((0 ≤ nI kk → (¬ (1 : Int32) = 0 → ∃ f : Nat, w_X10_dead_L21 (nI kk) (nI n) 1 (nI S) (MA 17) (fun r2 => r = r2 ∧ Inw XI XA XL MI MA ML) (fun _ _ => r = (-2000000005 : Int32) ∧ Inw XI XA XL MI MA ML) f (0 : Int32) (0 : Int32)) ∧ ((1 : Int32) = 0 → r = (-2000000002 : Int32) ∧ Inw XI XA XL MI MA ML)) ∧ (¬ 0 ≤ nI kk → r = (-2000000001 : Int32) ∧ Inw XI XA XL MI MA ML)) := fun r hr => tt c0 (nf (by decide) (hM r hr))
  refine pk_loop (fun f i (v : Int32) => w_X1_deadOne_L4 (nI kk) (nI n) (nI S) (XA 34) _ _ f v (nI i)) (fun i v => v = nI (cD (DEAD S (XA 34)) i) ∧ ∀ j, j < i → ¬ (DEAD S (XA 34) j ∧ cD (DEAD S (XA 34)) j = kk)) n 0 0 (by omega) ⟨rfl, fun j hj => absurd hj (by omega)⟩ ?_ ?_
  · intro f v hv
    exact tt (nI_le (Nat.le_refl n) (by omega)) (fin _ (Or.inr ⟨hv.2, rfl⟩))
  · intro f i v hi hv ih
    have hle := cD_le (DEAD S (XA 34)) i
    have nxt : ¬ (DEAD S (XA 34) i ∧ cD (DEAD S (XA 34)) i = kk) → ∀ j, j < i + 1 → ¬ (DEAD S (XA 34) j ∧ cD (DEAD S (XA 34)) j = kk) := fun q j hj => by
      by_cases e : j = i
      · subst e; exact q
      · exact hv.2 j (by omega)
    refine ff (nI_ge hi (by omega)) (isDeadX hS16 (by omega) hi (fun s hs => (r3 i s hi hs).2) (fun q => z1 ?_) (fun q => z0 (nm ?_)))
    · rw [hv.1]
      by_cases c : cD (DEAD S (XA 34)) i = kk
      · exact nt (by rw [c]) (fin _ (Or.inl ⟨i, hi, q, c, rfl⟩))
      · refine nf (fun h => c (nI_inj (by omega) hkk h)) (nm (nm ?_))
        rw [nI_1, nI_1]
        exact ih _ ⟨by show nI (_ + 1) = nI (cD (DEAD S (XA 34)) i + (if DEAD S (XA 34) i then 1 else 0)); rw [if_pos q], nxt (fun h => c h.2)⟩
    · rw [nI_1]
      exact ih _ ⟨by rw [hv.1]; show nI _ = nI (cD (DEAD S (XA 34)) i + (if DEAD S (XA 34) i then 1 else 0)); rw [if_neg q]; rfl, nxt (fun h => q h.1)⟩
/-! ===== what leads where ===== -/
def RK (n : Nat) (E : Nat → Nat → Prop) (Z : Nat → Prop) : Nat → Nat → Prop
  | 0, i => Z i
  | k + 1, i => RK n E Z k i ∨ ∃ a, a < n ∧ E i a ∧ RK n E Z k a
def RC (n : Nat) (E : Nat → Nat → Prop) (Z : Nat → Prop) (i : Nat) : Prop := ∃ k, RK n E Z k i
theorem RC_z {n : Nat} {E : Nat → Nat → Prop} {Z : Nat → Prop} {i : Nat} (h : Z i) : RC n E Z i := ⟨0, h⟩
theorem RC_step {n : Nat} {E : Nat → Nat → Prop} {Z : Nat → Prop} {i a : Nat} (ha : a < n) (he : E i a) (h : RC n E Z a) : RC n E Z i := by
  obtain ⟨k, hk⟩ := h
  exact ⟨k + 1, Or.inr ⟨a, ha, he, hk⟩⟩
theorem RC_min {n : Nat} {E : Nat → Nat → Prop} {Z A : Nat → Prop} (h0 : ∀ i, i < n → Z i → A i) (h1 : ∀ i a, i < n → a < n → E i a → A a → A i) : ∀ i, i < n → RC n E Z i → A i := by
  have key : ∀ k i, i < n → RK n E Z k i → A i := by
    intro k
    induction k with
    | zero => exact h0
    | succ k ih =>
      intro i hi h
      rcases h with h | ⟨a, ha, he, h⟩
      · exact ih i hi h
      · exact h1 i a hi ha he (ih a ha h)
  exact fun i hi ⟨k, hk⟩ => key k i hi hk
/-- the least that is not among them -/
def LO (n : Nat) (A : Nat → Prop) (r : Int32) : Prop := (∃ i, i < n ∧ ¬ A i ∧ (∀ j, j < i → A j) ∧ r = nI i) ∨ ((∀ i, i < n → A i) ∧ r = NONE)
theorem LO_uniq {n : Nat} {A : Nat → Prop} {r r' : Int32} (h : LO n A r) (h' : LO n A r') : r = r' := by
  rcases h with ⟨i, i1, i2, i3, i4⟩ | ⟨i1, i2⟩
  · rcases h' with ⟨j, j1, j2, j3, j4⟩ | ⟨j1, j2⟩
    · rcases Nat.lt_trichotomy i j with c | c | c
      · exact absurd (j3 i c) i2
      · rw [i4, j4, c]
      · exact absurd (i3 j c) j2
    · exact absurd (j1 i i1) i2
  · rcases h' with ⟨j, j1, j2, j3, j4⟩ | ⟨j1, j2⟩
    · exact absurd (i1 j j1) j2
    · rw [i2, j2]
abbrev cL (leads : Nat → Int32) : Nat → Nat := cD (fun j => leads j = 1)
theorem cL_congr {f g : Nat → Int32} : ∀ n, (∀ j, j < n → f j = g j) → cL f n = cL g n
  | 0, _ => rfl
  | n + 1, h => by
    show cL f n + (if f n = 1 then 1 else 0) = cL g n + (if g n = 1 then 1 else 0)
    rw [cL_congr n (fun j hj => h j (by omega)), h n (by omega)]
theorem cL_set {leads : Nat → Int32} {j : Nat} (h0 : leads j = 0) : ∀ n, j < n → cL (upd leads j 1) n = cL leads n + 1
  | 0, h => absurd h (by omega)
  | n + 1, h => by
    show cL (upd leads j 1) n + (if upd leads j 1 n = 1 then 1 else 0) = cL leads n + (if leads n = 1 then 1 else 0) + 1
    by_cases e : j = n
    · subst e
      rw [pk_us, if_pos rfl, h0, if_neg (by decide), cL_congr j (fun k hk => pk_un (by omega))]
    · rw [cL_set h0 n (by omega), pk_un (fun q => e q.symm)]
      omega
theorem cL_all {leads : Nat → Int32} : ∀ n, (∀ j, j < n → leads j = 0) → cL leads n = 0
  | 0, _ => rfl
  | n + 1, h => by
    show cL leads n + (if leads n = 1 then 1 else 0) = 0
    rw [cL_all n (fun j hj => h j (by omega)), h n (by omega), if_neg (by decide)]
