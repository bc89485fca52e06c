/-! ===== dead ===== -/
def cD (D : Nat → Prop) [DecidablePred D] : Nat → Nat
  | 0 => 0
  | i + 1 => cD D i + (if D i then 1 else 0)
theorem cD_le (D : Nat → Prop) [DecidablePred D] : ∀ i, cD D i ≤ i
  | 0 => Nat.le_refl 0
  | i + 1 => by
    have := cD_le D i
    show cD D i + (if D i then 1 else 0) ≤ i + 1
    split <;> omega
theorem cD_mono (D : Nat → Prop) [DecidablePred D] {i : Nat} : ∀ j, i ≤ j → cD D i ≤ cD D j
  | 0, h => by
    have : i = 0 := by omega
    subst this; exact Nat.le_refl _
  | j + 1, h => by
    by_cases e : i = j + 1
    · subst e; exact Nat.le_refl _
    · have := cD_mono D (i := i) j (by omega)
      show cD D i ≤ cD D j + (if D j then 1 else 0)
      omega
theorem cD_inj {D : Nat → Prop} [DecidablePred D] {i j : Nat} (hi : D i) (hj : D j) (h : cD D i = cD D j) : i = j := by
  rcases Nat.lt_trichotomy i j with c | c | c
  · have h1 := cD_mono D (i := i + 1) j (by omega)
    have h2 : cD D (i + 1) = cD D i + 1 := by show cD D i + (if D i then 1 else 0) = _; rw [if_pos hi]
    omega
  · exact c
  · have h1 := cD_mono D (i := j + 1) i (by omega)
    have h2 : cD D (j + 1) = cD D j + 1 := by show cD D j + (if D j then 1 else 0) = _; rw [if_pos hj]
    omega
/-- the k-th one, or none -/
def KTH (D : Nat → Prop) [DecidablePred D] (n k : Nat) (r : Int32) : Prop := (∃ i, i < n ∧ D i ∧ cD D i = k ∧ r = nI i) ∨ ((∀ i, i < n → ¬ (D i ∧ cD D i = k)) ∧ r = NONE)
theorem KTH_uniq {D : Nat → Prop} [DecidablePred D] {n k : Nat} {r r' : Int32} (h : KTH D n k r) (h' : KTH D n k r') : r = r' := by
  rcases h with ⟨i, i1, i2, i3, i4⟩ | ⟨i1, i2⟩
  · rcases h' with ⟨j, j1, j2, j3, j4⟩ | ⟨j1, j2⟩
    · rw [i4, j4, cD_inj i2 j2 (i3.trans j3.symm)]
    · exact absurd ⟨i2, i3⟩ (j1 i i1)
  · rcases h' with ⟨j, j1, j2, j3, j4⟩ | ⟨j1, j2⟩
    · exact absurd ⟨j2, j3⟩ (i1 j j1)
    · rw [i2, j2]
abbrev DEAD (S : Nat) (nexts : Nat → Int32) (i : Nat) : Prop := ∀ s, s < S → nexts (i * S + s) = NONE
theorem none_neg : NONE < 0 := by decide
theorem nI_none {j : Nat} (h : j < 2 ^ 31) : ¬ nI j = NONE := fun q => by
  have := none_neg
  rw [← q] at this
  exact nI_pos h this
theorem isDeadX {S n i : Nat} {nexts : Nat → Int32} {post : Int32 → Prop} (hS : S ≤ 16) (hn : n ≤ 8000) (hi : i < n) (hr : ∀ s, s < S → nexts (i * S + s) = NONE ∨ ∃ a : Nat, a < n ∧ nexts (i * S + s) = nI a) (h1 : DEAD S nexts i → post 1) (h0 : ¬ DEAD S nexts i → post 0) : w_X1_isDeadAt (nI S) nexts (nI i) post := by
  refine pk_loop (fun f k (_ : Unit) => w_X1_isDeadAt_L2 (nI i) (nI S) nexts post (fun _ => post 1) f (nI k)) (fun k _ => ∀ s, s < k → nexts (i * S + s) = NONE) S 0 () (by omega) (fun s hs => absurd hs (by omega)) ?_ ?_
  · intro f _ hg
    exact tt (nI_le (Nat.le_refl S) (by omega)) (h1 hg)
  · intro f k _ hk hg ih
    have hx := mul_in (n := 8000) (show i < 8000 by omega) hk hS
    refine ff (nI_ge hk (by omega)) ?_
    unfold w_X1_leadsFrom
    rw [ixB]
    refine ⟨vp_in_nI (by omega) (by omega), ?_⟩
    rw [nI_cl (n := i * S + k) (by omega)]
    rcases hr k hk with e | ⟨a, ha, e⟩
    · rw [e]
      refine tt none_neg (nm ?_)
      rw [nI_1]
      refine ih () (fun s hs => ?_)
      by_cases es : s = k
      · subst es; exact e
      · exact hg s (by omega)
    · rw [e]
      exact ff (nI_pos (by omega)) (h0 (fun q => nI_none (by omega) (e.symm.trans (q k hk))))
theorem isDeadM {S i : Nat} {next : Nat → Int32} {post : Int32 → Prop} (hS : S ≤ 16) (hi : i < 8000) (h1 : (∀ s, s < S → next (16 * i + s) = NONE) → post 1) (h0 : (¬ ∀ s, s < S → next (16 * i + s) = NONE) → post 0) : w_X10_isDead (nI S) next (nI i) post := by
  refine pk_loop (fun f k (v : Int32) => w_X10_isDead_L4 (nI i) (nI S) next post (fun v11 _ => v11 &&& 1 = v11 ∧ post v11) f v (nI k)) (fun k v => fl (fun s => next (16 * i + s) = NONE) k v) S 0 1 (by omega) (fl_0 _) ?_ ?_
  · intro f v hg
    refine tt (nI_le (Nat.le_refl S) (by omega)) ⟨fl_b hg, ?_⟩
    by_cases c : v = 0
    · rw [c]; exact h0 (fun q => (fl_all hg).mpr q c)
    · have h := h1 ((fl_all hg).mp c)
      rcases hg with ⟨e, -⟩ | ⟨e, -⟩
      · rw [e]; exact h
      · exact absurd e c
  · intro f k v hk hg ih
    refine ff (nI_ge hk (by omega)) ⟨fun c => nm ?_, fun c => ?_⟩
    · rw [nI_1]; exact ih _ (fl_keep hg c)
    · rw [ixA]
      refine ⟨vp_in_nI (by omega) (by omega), ?_⟩
      rw [nI_cl (n := 16 * i + k) (by omega)]
      by_cases d : next (16 * i + k) = NONE
      · refine nt d (nm ?_)
        rw [nI_1]; exact ih _ (fl_yes hg c d)
      · refine nf d (nm ?_)
        rw [nI_1]; exact ih _ (fl_no d)
theorem p_31 : St_31 Inw := by
  intro XI XA XL MI MA ML hI a1
  obtain ⟨P, S, hq, hN, hW, hPa, hH, hg, hF, hT, hb1, hb2, hs⟩ := id hI
  have hS16 : S ≤ 16 := hN.1.2
  unfold ls_31 w_X9_dead w_X10_dead
  by_cases c0 : ¬ 0 ≤ a1
  · exact ff c0 (ff c0 ⟨rfl, hI⟩)
  have c0 := Decidable.not_not.mp c0
  refine tt c0 ?_
  rcases id hF with ⟨f1, f2, f3⟩ | ⟨f1, f2, n, f3, f4, f5, f6, f7⟩
  · rw [f1, f2]
    exact tt rfl (tt c0 (nt rfl ⟨rfl, hI⟩))
  rw [f1, f2, f3, f4, f6, hq.2.2.2.1]
  obtain ⟨r1, r2, r3, r4, r5, r6, r7, r8, r9⟩ := f7
  obtain ⟨kk, hkk, rfl⟩ := nI_of (Int32.not_lt.mpr c0)
  refine ff (by decide) ?_
  have hM : ∀ r : Int32, KTH (DEAD S (XA 34)) n kk r → ∃ f : Nat, w_X10_dead_L21 (nI kk) (nI n) 1 (nI S) (MA 17) (fun r2 => r = r2 ∧ Inw XI XA XL MI MA ML) (fun _ _ => r = (-2000000005 : Int32) ∧ Inw XI XA XL MI MA ML) f (0 : Int32) (0 : Int32) := by
    intro r hr
    refine pk_loop (fun f i (v : Int32) => w_X10_dead_L21 (nI kk) (nI n) 1 (nI S) (MA 17) (fun r2 => r = r2 ∧ Inw XI XA XL MI MA ML) (fun _ _ => r = (-2000000005 : Int32) ∧ Inw XI XA XL MI MA ML) f v (nI i)) (fun i v => v = nI (cD (DEAD S (XA 34)) i) ∧ ∀ j, j < i → ¬ (DEAD S (XA 34) j ∧ cD (DEAD S (XA 34)) j = kk)) n 0 0 (by omega) ⟨rfl, fun j hj => absurd hj (by omega)⟩ ?_ ?_
    · intro f v hv
      exact tt (nI_le (Nat.le_refl n) (by omega)) ⟨KTH_uniq hr (Or.inr ⟨hv.2, rfl⟩), hI⟩
    · intro f i v hi hv ih
      have hd : DEAD S (XA 34) i ↔ ∀ s, s < S → MA 17 (16 * i + s) = NONE := ⟨fun q s hs => (r3 i s hi hs).1.symm.trans (q s hs), fun q s hs => (r3 i s hi hs).1.trans (q s hs)⟩
      have hle := cD_le (DEAD S (XA 34)) i
      have nxt : ¬ (DEAD S (XA 34) i ∧ cD (DEAD S (XA 34)) i = kk) → ∀ j, j < i + 1 → ¬ (DEAD S (XA 34) j ∧ cD (DEAD S (XA 34)) j = kk) := fun q j hj => by
        by_cases e : j = i
        · subst e; exact q
        · exact hv.2 j (by omega)
      refine ff (nI_ge hi (by omega)) (isDeadM hS16 (by omega) (fun q => z1 ?_) (fun q => z0 (nm ?_)))
      · have q := hd.mpr q
        rw [hv.1]
        by_cases c : cD (DEAD S (XA 34)) i = kk
        · exact nt (by rw [c]) ⟨KTH_uniq hr (Or.inl ⟨i, hi, q, c, rfl⟩), hI⟩
        · refine nf (fun h => c (nI_inj (by omega) hkk h)) (nm (nm ?_))
          rw [nI_1, nI_1]
          exact ih _ ⟨by show nI (_ + 1) = nI (cD (DEAD S (XA 34)) i + (if DEAD S (XA 34) i then 1 else 0)); rw [if_pos q], nxt (fun h => c h.2)⟩
      · have q : ¬ DEAD S (XA 34) i := fun h => q (hd.mp h)
        rw [nI_1]
        exact ih _ ⟨by rw [hv.1]; show nI _ = nI (cD (DEAD S (XA 34)) i + (if DEAD S (XA 34) i then 1 else 0)); rw [if_neg q]; rfl, nxt (fun h => q h.1)⟩
  have fin : ∀ r : Int32, KTH (DEAD S (XA 34)) n kk r → ((0 ≤ nI kk → (¬ (1 : Int32) = 0 → ∃ f : Nat, w_X10_dead_L21 (nI kk) (nI n) 1 (nI S) (MA 17) (fun r2 => r = r2 ∧ Inw XI XA XL MI MA ML) (fun _ _ => r = (-2000000005 : Int32) ∧ Inw XI XA XL MI MA ML) f (0 : Int32) (0 : Int32)) ∧ ((1 : Int32) = 0 → r = (-2000000002 : Int32) ∧ Inw XI XA XL MI MA ML)) ∧ (¬ 0 ≤ nI kk → r = (-2000000001 : Int32) ∧ Inw XI XA XL MI MA ML)) := fun r hr => tt c0 (nf (by decide) (hM r hr))
  refine pk_loop (fun f i (v : Int32) => w_X1_deadOne_L4 (nI kk) (nI n) (nI S) (XA 34) _ _ f v (nI i)) (fun i v => v = nI (cD (DEAD S (XA 34)) i) ∧ ∀ j, j < i → ¬ (DEAD S (XA 34) j ∧ cD (DEAD S (XA 34)) j = kk)) n 0 0 (by omega) ⟨rfl, fun j hj => absurd hj (by omega)⟩ ?_ ?_
  · intro f v hv
    exact tt (nI_le (Nat.le_refl n) (by omega)) (fin _ (Or.inr ⟨hv.2, rfl⟩))
  · intro f i v hi hv ih
    have hle := cD_le (DEAD S (XA 34)) i
    have nxt : ¬ (DEAD S (XA 34) i ∧ cD (DEAD S (XA 34)) i = kk) → ∀ j, j < i + 1 → ¬ (DEAD S (XA 34) j ∧ cD (DEAD S (XA 34)) j = kk) := fun q j hj => by
      by_cases e : j = i
      · subst e; exact q
      · exact hv.2 j (by omega)
    refine ff (nI_ge hi (by omega)) (isDeadX hS16 (by omega) hi (fun s hs => (r3 i s hi hs).2) (fun q => z1 ?_) (fun q => z0 (nm ?_)))
    · rw [hv.1]
      by_cases c : cD (DEAD S (XA 34)) i = kk
      · exact nt (by rw [c]) (fin _ (Or.inl ⟨i, hi, q, c, rfl⟩))
      · refine nf (fun h => c (nI_inj (by omega) hkk h)) (nm (nm ?_))
        rw [nI_1, nI_1]
        exact ih _ ⟨by show nI (_ + 1) = nI (cD (DEAD S (XA 34)) i + (if DEAD S (XA 34) i then 1 else 0)); rw [if_pos q], nxt (fun h => c h.2)⟩
    · rw [nI_1]
      exact ih _ ⟨by rw [hv.1]; show nI _ = nI (cD (DEAD S (XA 34)) i + (if DEAD S (XA 34) i then 1 else 0)); rw [if_neg q]; rfl, nxt (fun h => q h.1)⟩
/-! ===== what leads where ===== -/
def RK (n : Nat) (E : Nat → Nat → Prop) (Z : Nat → Prop) : Nat → Nat → Prop
  | 0, i => Z i
  | k + 1, i => RK n E Z k i ∨ ∃ a, a < n ∧ E i a ∧ RK n E Z k a
def RC (n : Nat) (E : Nat → Nat → Prop) (Z : Nat → Prop) (i : Nat) : Prop := ∃ k, RK n E Z k i
theorem RC_z {n : Nat} {E : Nat → Nat → Prop} {Z : Nat → Prop} {i : Nat} (h : Z i) : RC n E Z i := ⟨0, h⟩
theorem RC_step {n : Nat} {E : Nat → Nat → Prop} {Z : Nat → Prop} {i a : Nat} (ha : a < n) (he : E i a) (h : RC n E Z a) : RC n E Z i := by
  obtain ⟨k, hk⟩ := h
  exact ⟨k + 1, Or.inr ⟨a, ha, he, hk⟩⟩
theorem RC_min {n : Nat} {E : Nat → Nat → Prop} {Z A : Nat → Prop} (h0 : ∀ i, i < n → Z i → A i) (h1 : ∀ i a, i < n → a < n → E i a → A a → A i) : ∀ i, i < n → RC n E Z i → A i := by
  have key : ∀ k i, i < n → RK n E Z k i → A i := by
    intro k
    induction k with
    | zero => exact h0
    | succ k ih =>
      intro i hi h
      rcases h with h | ⟨a, ha, he, h⟩
      · exact ih i hi h
      · exact h1 i a hi ha he (ih a ha h)
  exact fun i hi ⟨k, hk⟩ => key k i hi hk
/-- the least that is not among them -/
def LO (n : Nat) (A : Nat → Prop) (r : Int32) : Prop := (∃ i, i < n ∧ ¬ A i ∧ (∀ j, j < i → A j) ∧ r = nI i) ∨ ((∀ i, i < n → A i) ∧ r = NONE)
theorem LO_uniq {n : Nat} {A : Nat → Prop} {r r' : Int32} (h : LO n A r) (h' : LO n A r') : r = r' := by
  rcases h with ⟨i, i1, i2, i3, i4⟩ | ⟨i1, i2⟩
  · rcases h' with ⟨j, j1, j2, j3, j4⟩ | ⟨j1, j2⟩
    · rcases Nat.lt_trichotomy i j with c | c | c
      · exact absurd (j3 i c) i2
      · rw [i4, j4, c]
      · exact absurd (i3 j c) j2
    · exact absurd (j1 i i1) i2
  · rcases h' with ⟨j, j1, j2, j3, j4⟩ | ⟨j1, j2⟩
    · exact absurd (i1 j j1) j2
    · rw [i2, j2]
abbrev cL (leads : Nat → Int32) : Nat → Nat := cD (fun j => leads j = 1)
theorem cL_congr {f g : Nat → Int32} : ∀ n, (∀ j, j < n → f j = g j) → cL f n = cL g n
  | 0, _ => rfl
  | n + 1, h => by
    show cL f n + (if f n = 1 then 1 else 0) = cL g n + (if g n = 1 then 1 else 0)
    rw [cL_congr n (fun j hj => h j (by omega)), h n (by omega)]
theorem cL_set {leads : Nat → Int32} {j : Nat} (h0 : leads j = 0) : ∀ n, j < n → cL (upd leads j 1) n = cL leads n + 1
  | 0, h => absurd h (by omega)
  | n + 1, h => by
    show cL (upd leads j 1) n + (if upd leads j 1 n = 1 then 1 else 0) = cL leads n + (if leads n = 1 then 1 else 0) + 1
    by_cases e : j = n
    · subst e
      rw [pk_us, if_pos rfl, h0, if_neg (by decide), cL_congr j (fun k hk => pk_un (by omega))]
    · rw [cL_set h0 n (by omega), pk_un (fun q => e q.symm)]
      omega
theorem cL_all {leads : Nat → Int32} : ∀ n, (∀ j, j < n → leads j = 0) → cL leads n = 0
  | 0, _ => rfl
  | n + 1, h => by
    show cL leads n + (if leads n = 1 then 1 else 0) = 0
    rw [cL_all n (fun j hj => h j (by omega)), h n (by omega), if_neg (by decide)]
/-! ===== turned round ===== -/
section TR
variable {n S : Nat} {nexts : Nat → Int32}
theorem turnA {x y : Int32} {oth f : Nat → Int32} {post : Int32 → (Nat → Int32) → (Nat → Int32) → Prop} {K : Int32 → (Nat → Int32) → Prop} (hn : n ≤ 8000) (h : ∀ z g, (∀ j, j < n → g j = -1) → K z g) : ∃ k : Nat, w_X1_turnRound_L10 (nI n) x y nexts oth post K k 0 f := by
  refine pk_loop (fun k i (g : Nat → Int32) => w_X1_turnRound_L10 (nI n) x y nexts oth post K k (nI i) g) (fun i g => ∀ j, j < i → g j = -1) n 0 f (by omega) (fun p hp => absurd hp (by omega)) ?_ ?_
  · intro k g hg
    exact tt (nI_le (Nat.le_refl n) (by omega)) (h _ g hg)
  · intro k i g hi hg ih
    refine ff (nI_ge hi (by omega)) ⟨vp_in_nI (by omega) (by omega), nm ?_⟩
    rw [nI_1, nI_cl (n := i) (by omega)]
    refine ih _ (fun p hp => ?_)
    by_cases e : p = i
    · rw [e, pk_us]
    · rw [pk_un e]; exact hg p (by omega)
theorem turnB {y : Int32} {f oth : Nat → Int32} {post : Int32 → (Nat → Int32) → (Nat → Int32) → Prop} {K : Int32 → (Nat → Int32) → (Nat → Int32) → Prop} (hn : n ≤ 8000) (hS : S ≤ 16) (hr : ∀ e, e < n * S → nexts e = NONE ∨ ∃ a : Nat, a < n ∧ nexts e = nI a) (hf : ∀ j, j < n → f j = -1) (h : ∀ z g o, tnd S n nexts g o → K z g o) : ∃ k : Nat, w_X1_turnRound_L36 (nI n) (nI S) y nexts post K k 0 f oth := by
  have hm : n * S ≤ 128000 := by
    have h1 : n * S ≤ n * 16 := Nat.mul_le_mul_left n hS
    omega
  refine pk_loop (σ := (Nat → Int32) × (Nat → Int32)) (fun k i g => w_X1_turnRound_L36 (nI n) (nI S) y nexts post K k (nI i) g.1 g.2) (fun i g => (∀ j, j < n → g.1 j = lastP (fun e => nexts e = nI j) i) ∧ ∀ e j, e < i → j < n → nexts e = nI j → g.2 e = lastP (fun e' => nexts e' = nI j) e) (n * S) 0 (f, oth) (by omega) ⟨fun j hj => hf j hj, fun e j he => absurd he (by omega)⟩ ?_ ?_
  · intro k g hg
    refine tt ?_ (h _ _ _ hg)
    rw [pk_mul]; exact nI_le (Nat.le_refl _) (by omega)
  · intro k i g hi hg ih
    have hin : vp_in (nI i) 128000 := vp_in_nI (by omega) (by omega)
    refine ff (by rw [pk_mul]; exact nI_ge hi (by omega)) ⟨hin, ?_⟩
    rw [nI_cl (n := i) (by omega)]
    rcases hr i hi with e | ⟨a, ha, e⟩
    · rw [e]
      refine tt none_neg (nm ?_)
      rw [nI_1]
      refine ih g ⟨fun j hj => ?_, fun e' j he hj q => ?_⟩
      · show g.1 j = if nexts i = nI j then nI i else lastP _ i
        rw [if_neg (by rw [e]; exact fun q => nI_none (by omega) q.symm)]
        exact hg.1 j hj
      · by_cases ee : e' = i
        · subst ee
          rw [e] at q; exact absurd q.symm (nI_none (by omega))
        · exact hg.2 e' j (by omega) hj q
    · rw [e]
      have hia : vp_in (nI a) 8000 := vp_in_nI (by omega) (by omega)
      refine ff (nI_pos (by omega)) ⟨hin, hia, hin, hin, hia, nm ?_⟩
      rw [nI_1, nI_cl (n := a) (by omega)]
      refine ih (upd g.1 a (nI i), upd g.2 i (g.1 a)) ⟨fun j hj => ?_, fun e' j he hj q => ?_⟩
      · show upd g.1 a (nI i) j = if nexts i = nI j then nI i else lastP _ i
        by_cases ej : j = a
        · subst ej; rw [pk_us, if_pos e]
        · rw [pk_un ej, if_neg (by rw [e]; exact fun q => ej (nI_inj (by omega) (by omega) q).symm)]
          exact hg.1 j hj
      · show upd g.2 i (g.1 a) e' = _
        by_cases ee : e' = i
        · subst ee
          have ej : j = a := nI_inj (by omega) (by omega) (q.symm.trans e)
          subst ej
          rw [pk_us]; exact hg.1 j hj
        · rw [pk_un ee]; exact hg.2 e' j (by omega) hj q
theorem turn_spec {t : Int32} {f oth : Nat → Int32} {post : Int32 → (Nat → Int32) → (Nat → Int32) → Prop} (hn : n ≤ 8000) (hS : S ≤ 16) (hr : ∀ e, e < n * S → nexts e = NONE ∨ ∃ a : Nat, a < n ∧ nexts e = nI a) (ht : t = 0 ∨ (t = 1 ∧ tnd S n nexts f oth)) (h : ∀ g o, tnd S n nexts g o → post 1 g o) : w_X1_turnRound (nI n) (nI S) t f nexts oth post := by
  rcases ht with rfl | ⟨rfl, ht⟩
  · exact tt rfl (turnA hn (fun z g hg => turnB hn hS hr hg (fun z' g' o ht => h g' o ht)))
  · exact ff (by decide) (h f oth ht)
/-- the class's search: who leads, the queue of them -/
def BF (n : Nat) (E : Nat → Nat → Prop) (Z : Nat → Prop) (c : Nat) (leads queue : Nat → Int32) : Prop :=
  (∀ j, j < n → leads j = 0 ∨ leads j = 1) ∧ c = cL leads n ∧ (∀ k, k < c → ∃ j : Nat, j < n ∧ queue k = nI j ∧ leads j = 1) ∧ (∀ j, j < n → leads j = 1 → ∃ k, k < c ∧ queue k = nI j) ∧ (∀ j, j < n → leads j = 1 → RC n E Z j) ∧ (∀ j, j < n → Z j → leads j = 1)
theorem BF_add {E : Nat → Nat → Prop} {Z : Nat → Prop} {c j : Nat} {leads queue : Nat → Int32} (h : BF n E Z c leads queue) (hj : j < n) (h0 : leads j = 0) (hr : RC n E Z j) : BF n E Z (c + 1) (upd leads j 1) (upd queue c (nI j)) ∧ c < n := by
  obtain ⟨b1, b2, b3, b4, b5, b6⟩ := h
  have hc := cL_set h0 n hj
  have hle := cD_le (fun k => upd leads j 1 k = 1) n
  refine ⟨⟨fun k hk => ?_, by rw [b2]; exact hc.symm, fun k hk => ?_, fun k hk q => ?_, fun k hk q => ?_, fun k hk q => ?_⟩, by
    have : cL (upd leads j 1) n ≤ n := hle
    omega⟩
  · by_cases e : k = j
    · rw [e, pk_us]; exact Or.inr rfl
    · rw [pk_un e]; exact b1 k hk
  · by_cases e : k = c
    · rw [e, pk_us]; exact ⟨j, hj, rfl, pk_us⟩
    · rw [pk_un e]
      obtain ⟨i, i1, i2, i3⟩ := b3 k (by omega)
      refine ⟨i, i1, i2, ?_⟩
      by_cases ei : i = j
      · rw [ei, pk_us]
      · rw [pk_un ei]; exact i3
  · by_cases e : k = j
    · rw [e]; exact ⟨c, by omega, pk_us⟩
    · rw [pk_un e] at q
      obtain ⟨i, i1, i2⟩ := b4 k hk q
      exact ⟨i, by omega, by rw [pk_un (by omega)]; exact i2⟩
  · by_cases e : k = j
    · rw [e]; exact hr
    · rw [pk_un e] at q; exact b5 k hk q
  · by_cases e : k = j
    · rw [e, pk_us]
    · rw [pk_un e]; exact b6 k hk q
theorem qb_spec {E : Nat → Nat → Prop} {Z : Nat → Prop} {m c : Nat} {firstIn otherIn leads queue : Nat → Int32} {post : Int32 → (Nat → Int32) → (Nat → Int32) → Prop} (hn : n ≤ 8000) (hS : S ≤ 16) (hE : ∀ i t a, i < n → t < S → a < n → nexts (i * S + t) = nI a → E i a) (ht : tnd S n nexts firstIn otherIn) (hm : m < n) (hR : RC n E Z m) (hB : BF n E Z c leads queue)
    (h : ∀ c' leads' queue', BF n E Z c' leads' queue' → c ≤ c' → (∀ j, j < n → leads j = 1 → leads' j = 1) → (∀ k, k < c → queue' k = queue k) → (∀ e, e < n * S → nexts e = nI m → leads' (e / S) = 1) → post (nI c') leads' queue') : w_X1_queueThoseBefore (nI n) (nI S) firstIn leads otherIn queue (nI m) (nI c) post := by
  have hmm : n * S ≤ 128000 := by
    have h1 : n * S ≤ n * 16 := Nat.mul_le_mul_left n hS
    omega
  refine ⟨vp_in_nI (by omega) (by omega), nm (nm ?_)⟩
  rw [nI_cl (n := m) (by omega), ht.1 m hm, pk_mul]
  refine ⟨n * S + 1, ?_⟩
  have key : ∀ left x c1 (leads1 queue1 : Nat → Int32), x ≤ left → left ≤ n * S → BF n E Z c1 leads1 queue1 → c ≤ c1 → (∀ j, j < n → leads j = 1 → leads1 j = 1) → (∀ k, k < c → queue1 k = queue k) → (∀ e, x ≤ e → e < n * S → nexts e = nI m → leads1 (e / S) = 1) → w_X1_queueThoseBefore_L24 (nI n) (nI S) firstIn otherIn post (fun v25 _ _ s28 s29 => post v25 s28 s29) (left + 1) (nI c1) (lastP (fun e => nexts e = nI m) x) (nI left) leads1 queue1 := by
    intro left
    induction left with
    | zero =>
      intro x c1 leads1 queue1 hx hl hB1 hc hmo hqu hpr
      exact tt (by decide) (h _ _ _ hB1 hc hmo hqu (fun e he q => hpr e (by omega) he q))
    | succ left ih =>
      intro x c1 leads1 queue1 hx hl hB1 hc hmo hqu hpr
      refine ff (nI_nle (by omega) (by omega)) ?_
      rcases lastP_cases (fun e => nexts e = nI m) x with ⟨e1, q⟩ | ⟨e, he, hq, e1, q⟩
      · rw [e1]
        refine tt (by decide) (h _ _ _ hB1 hc hmo hqu (fun e he w => ?_))
        rcases Nat.lt_or_ge e x with d | d
        · exact absurd w (q e d)
        · exact hpr e d he w
      · rw [e1]
        have hS0 : 0 < S := by
          rcases Nat.eq_zero_or_pos S with z | z
          · rw [z, Nat.mul_zero] at hl; omega
          · exact z
        have hen : e < n * S := by omega
        have hj : e / S < n := by
          rw [Nat.div_lt_iff_lt_mul hS0]; exact hen
        have hed : e / S * S + e % S = e := by rw [Nat.mul_comm]; exact Nat.div_add_mod e S
        have hRj : RC n E Z (e / S) := RC_step hm (hE (e / S) (e % S) m hj (Nat.mod_lt _ hS0) hm (by rw [hed]; exact hq)) hR
        have hin : vp_in (nI e) 128000 := vp_in_nI (by omega) (by omega)
        have hij : vp_in (nI (e / S)) 8000 := vp_in_nI (by omega) (by omega)
        refine ff (nI_pos (by omega)) (ff (nI_nle hS0 (by omega)) ⟨nI_ne0 hS0 (by omega), nm ?_⟩)
        rw [pk_div (by omega) hS0 (by omega)]
        refine ⟨hij, ?_⟩
        rw [nI_cl (n := e / S) (by omega)]
        have rest : ∀ c2 (leads2 queue2 : Nat → Int32), BF n E Z c2 leads2 queue2 → c1 ≤ c2 → (∀ j, j < n → leads1 j = 1 → leads2 j = 1) → (∀ k, k < c1 → queue2 k = queue1 k) → leads2 (e / S) = 1 → (vp_in (nI e) 128000 ∧ ∀ x19 : Int32, x19 = otherIn (nI e).toNatClampNeg → ∀ x20 : Int32, x20 = nI (left + 1) + (-1 : Int32) → w_X1_queueThoseBefore_L24 (nI n) (nI S) firstIn otherIn post (fun v25 _ _ s28 s29 => post v25 s28 s29) (left + 1) (nI c2) x19 x20 leads2 queue2) := by
          intro c2 leads2 queue2 hB2 hc2 hm2 hq2 hl2
          refine ⟨hin, nm (nm ?_)⟩
          rw [nI_cl (n := e) (by omega), ht.2 e m hen hm hq, pk_m1]
          refine ih e c2 leads2 queue2 (by omega) (by omega) hB2 (by omega) (fun j hj' w => hm2 j hj' (hmo j hj' w)) (fun k hk => (hq2 k (by omega)).trans (hqu k hk)) (fun e' h1 h2 w => ?_)
          rcases Nat.lt_or_ge e' x with d | d
          · by_cases ee : e' = e
            · rw [ee]; exact hl2
            · exact absurd w (q e' (by omega) d)
          · exact hm2 _ (by rw [Nat.div_lt_iff_lt_mul hS0]; exact h2) (hpr e' d h2 w)
        rcases hB1.1 (e / S) hj with c0 | c0
        · obtain ⟨hB2, hcn⟩ := BF_add hB1 hj c0 hRj
          refine nt c0 ⟨hij, vp_in_nI (by omega) (by omega), nm ?_⟩
          rw [nI_1, nI_cl (n := c1) (by omega)]
          refine rest (c1 + 1) _ _ hB2 (by omega) (fun j hj' w => ?_) (fun k hk => pk_un (by omega)) pk_us
          by_cases ej : j = e / S
          · rw [ej, pk_us]
          · rw [pk_un ej]; exact w
        · exact nf (by rw [c0]; decide) (rest c1 leads1 queue1 hB1 (Nat.le_refl _) (fun j _ w => w) (fun k _ => rfl) c0)
  exact key (n * S) (n * S) c leads queue (Nat.le_refl _) (Nat.le_refl _) hB (Nat.le_refl _) (fun j _ w => w) (fun k _ => rfl) (fun e h1 h2 => absurd h1 (by omega))
theorem lnl_spec {E : Nat → Nat → Prop} {Z : Nat → Prop} {c : Nat} {firstIn otherIn leads queue : Nat → Int32} {post : Int32 → (Nat → Int32) → (Nat → Int32) → Prop} (hn : n ≤ 8000) (hS : S ≤ 16) (hE : ∀ i a, i < n → a < n → (E i a ↔ ∃ t, t < S ∧ nexts (i * S + t) = nI a)) (ht : tnd S n nexts firstIn otherIn) (hB : BF n E Z c leads queue)
    (h : ∀ r leads' queue', LO n (RC n E Z) r → post r leads' queue') : w_X1_leastNotLeading (nI n) (nI S) firstIn leads otherIn queue (nI c) post := by
  refine ⟨n + 1, ?_⟩
  have out : ∀ c1 (leads1 queue1 : Nat → Int32), BF n E Z c1 leads1 queue1 → (∀ k, k < c1 → ∀ j, j < n → queue1 k = nI j → ∀ e, e < n * S → nexts e = nI j → leads1 (e / S) = 1) → ∃ f : Nat, w_X1_leastNotLeading_L40 (nI n) (nI S) firstIn leads1 otherIn queue1 post (fun _ => post (-2000000005 : Int32) leads1 queue1) f (0 : Int32) := by
    intro c1 leads1 queue1 hB1 hcl
    obtain ⟨b1, b2, b3, b4, b5, b6⟩ := hB1
    have hiff : ∀ j, j < n → (leads1 j = 1 ↔ RC n E Z j) := fun j hj => ⟨b5 j hj, RC_min (A := fun j => leads1 j = 1) b6 (fun i a hi ha he hl => by
      obtain ⟨t, ht', et⟩ := (hE i a hi ha).mp he
      obtain ⟨k, hk, ek⟩ := b4 a ha hl
      have hS0 : 0 < S := by omega
      have := hcl k hk a ha ek (i * S + t) (by have := row_lt hi ht'; omega) et
      rw [Nat.mul_comm, Nat.mul_add_div hS0, Nat.div_eq_of_lt ht', Nat.add_zero] at this
      exact this) j hj⟩
    refine pk_loop (fun f i (_ : Unit) => w_X1_leastNotLeading_L40 (nI n) (nI S) firstIn leads1 otherIn queue1 post (fun _ => post (-2000000005 : Int32) leads1 queue1) f (nI i)) (fun i _ => ∀ j, j < i → RC n E Z j) n 0 () (by omega) (fun j hj => absurd hj (by omega)) ?_ ?_
    · intro f _ hg
      exact tt (nI_le (Nat.le_refl n) (by omega)) (h _ _ _ (Or.inr ⟨hg, rfl⟩))
    · intro f i _ hi hg ih
      refine ff (nI_ge hi (by omega)) ⟨vp_in_nI (by omega) (by omega), ?_⟩
      rw [nI_cl (n := i) (by omega)]
      rcases b1 i hi with e | e
      · exact nt e (h _ _ _ (Or.inl ⟨i, hi, fun q => by rw [(hiff i hi).mpr q] at e; exact absurd e (by decide), hg, rfl⟩))
      · refine nf (by rw [e]; decide) (nm ?_)
        rw [nI_1]
        refine ih () (fun j hj => ?_)
        by_cases ej : j = i
        · rw [ej]; exact (hiff i hi).mp e
        · exact hg j (by omega)
  have key : ∀ d dn c1 (leads1 queue1 : Nat → Int32), dn + d = n → dn ≤ c1 → BF n E Z c1 leads1 queue1 → (∀ k, k < dn → ∀ j, j < n → queue1 k = nI j → ∀ e, e < n * S → nexts e = nI j → leads1 (e / S) = 1) → w_X1_leastNotLeading_L4 (nI n) (nI S) firstIn otherIn post (fun v10 v11 s12 s13 => ∃ f : Nat, w_X1_leastNotLeading_L40 (nI n) (nI S) firstIn s12 otherIn s13 post (fun _ => post (-2000000005 : Int32) s12 s13) f (0 : Int32)) (d + 1) (nI c1) (nI dn) leads1 queue1 := by
    intro d
    induction d with
    | zero =>
      intro dn c1 leads1 queue1 hd hdc hB1 hcl
      have hle : c1 ≤ n := by rw [hB1.2.1]; exact cD_le _ n
      refine tt (nI_le (by omega) (by omega)) (out c1 leads1 queue1 hB1 (fun k hk => hcl k (by omega)))
    | succ d ih =>
      intro dn c1 leads1 queue1 hd hdc hB1 hcl
      have hle : c1 ≤ n := by rw [hB1.2.1]; exact cD_le _ n
      by_cases e : c1 ≤ dn
      · exact tt (nI_le e (by omega)) (out c1 leads1 queue1 hB1 (fun k hk => hcl k (by omega)))
      · obtain ⟨m, m1, m2, m3⟩ := hB1.2.2.1 dn (by omega)
        refine ff (nI_ge (by omega) (by omega)) (ff (nI_ge (by omega) (by omega)) ⟨vp_in_nI (by omega) (by omega), ?_⟩)
        rw [nI_cl (n := dn) (by omega), m2]
        refine qb_spec hn hS (fun i t a hi ht' ha et => (hE i a hi ha).mpr ⟨t, ht', et⟩) ht m1 (hB1.2.2.2.2.1 m m1 m3) hB1 (fun c2 leads2 queue2 hB2 hc2 hmo hqu hpr => nm ?_)
        · rw [nI_1]
          refine ih (dn + 1) c2 leads2 queue2 (by omega) (by omega) hB2 (fun k hk j hj ek e' he' et => ?_)
          by_cases ekk : k = dn
          · subst ekk
            rw [hqu k (by omega), m2] at ek
            have := nI_inj (by omega) (by omega) ek
            subst this
            exact hpr e' he' et
          · rw [hqu k (by omega)] at ek
            have h1 := hcl k (by omega) j hj ek e' he' et
            have hS0 : 0 < S := by
              rcases Nat.eq_zero_or_pos S with z | z
              · rw [z, Nat.mul_zero] at he'; omega
              · exact z
            exact hmo _ (by rw [Nat.div_lt_iff_lt_mul hS0]; exact he') h1
  exact key n 0 c leads queue (by omega) (by omega) hB (fun k hk => absurd hk (by omega))
end TR
