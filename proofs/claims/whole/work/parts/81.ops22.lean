/-! ===== works ===== -/
def oneAt (b p : Nat) : Int32 := if p = b then 1 else 0
theorem one_spec {b : Nat} {f : Nat → Int32} {post : (Nat → Int32) → Prop} (hb : b < 16) (k : ∀ g, (∀ p, p < 16 → g p = oneAt b p) → post g) : w_X3_becomeOneAt f (nI b) post := by
  refine fill_spec (by omega) (fun g h1 h2 => ⟨vp_in_nI hb (by omega), ?_⟩)
  rw [nI_cl (n := b) (by omega)]
  refine k _ (fun p hp => ?_)
  unfold oneAt
  by_cases e : p = b
  · rw [e, pk_us, if_pos rfl]
  · rw [pk_un e, if_neg e]; exact h1 p hp
theorem worksC {P b : Nat} {v2 v3 x1 x2 x3 st : Int32} {a1 a2 a3 a4 a5 a6 a7 a8 a9 a10 a11 a12 f : Nat → Int32} {post : Int32 → Int32 → Int32 → Int32 → (Nat → Int32) → (Nat → Int32) → (Nat → Int32) → (Nat → Int32) → (Nat → Int32) → (Nat → Int32) → (Nat → Int32) → Prop} {K : Int32 → (Nat → Int32) → Prop} (hP : P ≤ 16) (hb : b < 16) (h : ∀ z g, (∀ p, p < P → g p = oneAt b p) → K z g) : ∃ n : Nat, w_X10_works_L43 (nI b) v2 v3 x1 x2 x3 (nI P) st a1 a2 a3 a4 a5 a6 a7 a8 a9 a10 a11 a12 post K n 0 f := by
  refine pk_loop (fun n i (g : Nat → Int32) => w_X10_works_L43 (nI b) v2 v3 x1 x2 x3 (nI P) st a1 a2 a3 a4 a5 a6 a7 a8 a9 a10 a11 a12 post K n (nI i) g) (fun i g => ∀ p, p < i → g p = oneAt b p) P 0 f (by omega) (fun p hp => absurd hp (by omega)) ?_ ?_
  · intro n g hg
    exact tt (nI_le (Nat.le_refl P) (by omega)) (h _ g hg)
  · intro n i g hi hg ih
    refine ff (nI_ge hi (by omega)) ?_
    have hin : vp_in (nI i) 16 := vp_in_nI (by omega) (by omega)
    by_cases c : i = b
    · refine nt (by rw [c]) ⟨hin, nm ?_⟩
      rw [nI_1, nI_cl (n := i) (by omega)]
      refine ih _ (fun p hp => ?_)
      by_cases e : p = i
      · rw [e, pk_us]; exact (if_pos c).symm
      · rw [pk_un e]; exact hg p (by omega)
    · refine nf (fun q => c (nI_inj (by omega) (by omega) q)) ⟨hin, nm ?_⟩
      rw [nI_1, nI_cl (n := i) (by omega)]
      refine ih _ (fun p hp => ?_)
      by_cases e : p = i
      · rw [e, pk_us]; exact (if_neg c).symm
      · rw [pk_un e]; exact hg p (by omega)
theorem worksD {P b : Nat} {x1 x2 x3 st : Int32} {a1 a2 a3 a4 a5 a6 a7 a8 a9 a10 a11 a12 f : Nat → Int32} {post : Int32 → Int32 → Int32 → Int32 → (Nat → Int32) → (Nat → Int32) → (Nat → Int32) → (Nat → Int32) → (Nat → Int32) → (Nat → Int32) → (Nat → Int32) → Prop} {K : Int32 → (Nat → Int32) → Prop} (hP : P ≤ 16) (hb : b < 16) (h : ∀ z g, (∀ p, p < P → g p = oneAt b p) → K z g) : ∃ n : Nat, w_X10_works_L96 (nI b) x1 x2 x3 (nI P) st a1 a2 a3 a4 a5 a6 a7 a8 a9 a10 a11 a12 post K n 0 f := by
  refine pk_loop (fun n i (g : Nat → Int32) => w_X10_works_L96 (nI b) x1 x2 x3 (nI P) st a1 a2 a3 a4 a5 a6 a7 a8 a9 a10 a11 a12 post K n (nI i) g) (fun i g => ∀ p, p < i → g p = oneAt b p) P 0 f (by omega) (fun p hp => absurd hp (by omega)) ?_ ?_
  · intro n g hg
    exact tt (nI_le (Nat.le_refl P) (by omega)) (h _ g hg)
  · intro n i g hi hg ih
    refine ff (nI_ge hi (by omega)) ?_
    have hin : vp_in (nI i) 16 := vp_in_nI (by omega) (by omega)
    by_cases c : i = b
    · refine nt (by rw [c]) ⟨hin, nm ?_⟩
      rw [nI_1, nI_cl (n := i) (by omega)]
      refine ih _ (fun p hp => ?_)
      by_cases e : p = i
      · rw [e, pk_us]; exact (if_pos c).symm
      · rw [pk_un e]; exact hg p (by omega)
    · refine nf (fun q => c (nI_inj (by omega) (by omega) q)) ⟨hin, nm ?_⟩
      rw [nI_1, nI_cl (n := i) (by omega)]
      refine ih _ (fun p hp => ?_)
      by_cases e : p = i
      · rw [e, pk_us]; exact (if_neg c).symm
      · rw [pk_un e]; exact hg p (by omega)
theorem otherX {n P e : Nat} {T : Int32} {cells : Nat → Int32} {A : Nat → Prop} {post : Int32 → Prop} (hn : n ≤ 8000) (hP : P ≤ 16) (he : e < P) (hA : ∀ i, i < n → (A i ↔ (nI i = T ∨ cells (i * P + e) ≤ 0))) (h : ∀ r, LO n A r → post r) : w_X1_leastOtherWith 8000 (nI n) (nI P) cells (nI e) T post := by
  refine pk_loop (fun f i (_ : Unit) => w_X1_leastOtherWith_L2 8000 (nI e) T (nI n) (nI P) cells post (fun _ => post (-2000000005 : Int32)) f (nI i)) (fun i _ => ∀ j, j < i → A j) n 0 () (by omega) (fun j hj => absurd hj (by omega)) ?_ ?_
  · intro f _ hg
    exact tt (nI_le (Nat.le_refl n) (by omega)) (h _ (Or.inr ⟨hg, rfl⟩))
  · intro f i _ hi hg ih
    have nxt : A i → ∀ j, j < i + 1 → A j := fun ha j hj => by
      by_cases ej : j = i
      · rw [ej]; exact ha
      · exact hg j (by omega)
    refine ff (nI_ge hi (by omega)) ?_
    by_cases c : nI i = T
    · refine tt c (nm ?_)
      rw [nI_1]
      exact ih () (nxt ((hA i hi).mpr (Or.inl c)))
    · refine ff c ?_
      obtain ⟨b1, b2⟩ := row_in (N := 8000) (show i < 8000 by omega) he hP (Nat.le_refl _)
      unfold w_X4_cellAt
      rw [ixB]
      refine ⟨vp_in_nI b1 b2, ?_⟩
      rw [nI_cl (n := i * P + e) (by omega)]
      by_cases d : cells (i * P + e) ≤ 0
      · refine tt d (nm ?_)
        rw [nI_1]
        exact ih () (nxt ((hA i hi).mpr (Or.inr d)))
      · exact ff d (h _ (Or.inl ⟨i, hi, fun q => by
          rcases (hA i hi).mp q with w | w
          · exact c w
          · exact d w, hg, rfl⟩))
theorem otherM {n e : Nat} {T : Int32} {field : Nat → Int32} {A : Nat → Prop} {post : Int32 → Prop} (hn : n ≤ 8000) (he : e < 16) (hA : ∀ i, i < n → (A i ↔ (nI i = T ∨ field (16 * i + e) ≤ 0))) (h : ∀ r, LO n A r → post r) : w_X10_leastOther (nI n) field (nI e) T post := by
  refine pk_loop (fun f i (_ : Unit) => w_X10_leastOther_L2 (nI e) T (nI n) field post (fun _ => post (-2000000005 : Int32)) f (nI i)) (fun i _ => ∀ j, j < i → A j) n 0 () (by omega) (fun j hj => absurd hj (by omega)) ?_ ?_
  · intro f _ hg
    exact tt (nI_le (Nat.le_refl n) (by omega)) (h _ (Or.inr ⟨hg, rfl⟩))
  · intro f i _ hi hg ih
    have nxt : A i → ∀ j, j < i + 1 → A j := fun ha j hj => by
      by_cases ej : j = i
      · rw [ej]; exact ha
      · exact hg j (by omega)
    refine ff (nI_ge hi (by omega)) ?_
    by_cases c : nI i = T
    · refine tt c (nm ?_)
      rw [nI_1]
      exact ih () (nxt ((hA i hi).mpr (Or.inl c)))
    · refine ff c ?_
      rw [ixA]
      refine ⟨vp_in_nI (by omega) (by omega), ?_⟩
      rw [nI_cl (n := 16 * i + e) (by omega)]
      by_cases d : field (16 * i + e) ≤ 0
      · refine tt d (nm ?_)
        rw [nI_1]
        exact ih () (nxt ((hA i hi).mpr (Or.inr d)))
      · exact ff d (h _ (Or.inl ⟨i, hi, fun q => by
          rcases (hA i hi).mp q with w | w
          · exact c w
          · exact d w, hg, rfl⟩))
theorem nowhereX {n S s : Nat} {nexts : Nat → Int32} {post : Int32 → Prop} (hn : n ≤ 8000) (hS : S ≤ 16) (hs : s < S) (hr : ∀ i t, i < n → t < S → nexts (i * S + t) = NONE ∨ ∃ a : Nat, a < n ∧ nexts (i * S + t) = nI a) (h1 : (∀ i, i < n → nexts (i * S + s) = NONE) → post 1) (h0 : (¬ ∀ i, i < n → nexts (i * S + s) = NONE) → post 0) : w_X1_goesNowhere (nI n) (nI S) nexts (nI s) post := by
  refine pk_loop (fun f i (_ : Unit) => w_X1_goesNowhere_L2 (nI s) (nI n) (nI S) nexts post (fun _ => post 1) f (nI i)) (fun i _ => ∀ j, j < i → nexts (j * S + s) = NONE) n 0 () (by omega) (fun j hj => absurd hj (by omega)) ?_ ?_
  · intro f _ hg
    exact tt (nI_le (Nat.le_refl n) (by omega)) (h1 hg)
  · intro f i _ hi hg ih
    have hx := mul_in (n := 8000) (show i < 8000 by omega) hs hS
    refine ff (nI_ge hi (by omega)) ?_
    unfold w_X1_leadsFrom
    rw [ixB]
    refine ⟨vp_in_nI (by omega) (by omega), ?_⟩
    rw [nI_cl (n := i * S + s) (by omega)]
    rcases hr i s hi hs with e | ⟨a, ha, e⟩
    · rw [e]
      refine tt none_neg (nm ?_)
      rw [nI_1]
      refine ih () (fun j hj => ?_)
      by_cases ej : j = i
      · rw [ej]; exact e
      · exact hg j (by omega)
    · rw [e]
      exact ff (nI_pos (by omega)) (h0 (fun q => nI_none (by omega) (e.symm.trans (q i hi))))
theorem idleX {n S : Nat} {nexts : Nat → Int32} {post : Int32 → Prop} (hn : n ≤ 8000) (hS : S ≤ 16) (hr : ∀ i t, i < n → t < S → nexts (i * S + t) = NONE ∨ ∃ a : Nat, a < n ∧ nexts (i * S + t) = nI a) (h : ∀ r, LO S (fun s => ¬ ∀ i, i < n → nexts (i * S + s) = NONE) r → post r) : w_X1_leastIdleStep (nI n) (nI S) nexts post := by
  refine pk_loop (fun f s (_ : Unit) => w_X1_leastIdleStep_L2 (nI n) (nI S) nexts post (fun _ => post (-2000000005 : Int32)) f (nI s)) (fun s _ => ∀ j, j < s → ¬ ∀ i, i < n → nexts (i * S + j) = NONE) S 0 () (by omega) (fun j hj => absurd hj (by omega)) ?_ ?_
  · intro f _ hg
    exact tt (nI_le (Nat.le_refl S) (by omega)) (h _ (Or.inr ⟨hg, rfl⟩))
  · intro f s _ hs hg ih
    refine ff (nI_ge hs (by omega)) (nowhereX hn hS hs hr (fun q => z1 (h _ (Or.inl ⟨s, hs, fun w => w q, hg, rfl⟩))) (fun q => z0 (nm ?_)))
    rw [nI_1]
    refine ih () (fun j hj => ?_)
    by_cases ej : j = s
    · rw [ej]; exact q
    · exact hg j (by omega)
theorem idleM {n S : Nat} {next : Nat → Int32} {A : Nat → Prop} {post : Int32 → Prop} (hn : n ≤ 8000) (hS : S ≤ 16) (hA : ∀ s, s < S → (A s ↔ ¬ ∀ i, i < n → next (16 * i + s) = NONE)) (h : ∀ r, LO S A r → post r) : w_X10_leastIdle (nI n) (nI S) next post := by
  refine pk_loop (fun f s (_ : Unit) => w_X10_leastIdle_L2 (nI n) (nI S) next post (fun _ => post (-2000000005 : Int32)) f (nI s)) (fun s _ => ∀ j, j < s → A j) S 0 () (by omega) (fun j hj => absurd hj (by omega)) ?_ ?_
  · intro f _ hg
    exact tt (nI_le (Nat.le_refl S) (by omega)) (h _ (Or.inr ⟨hg, rfl⟩))
  · intro f s _ hs hg ih
    refine ff (nI_ge hs (by omega)) ?_
    refine pk_loop (fun f' i (v : Int32) => w_X10_leastIdle_L14 (nI s) (nI n) (nI S) next post _ f' v (nI i)) (fun i v => (v = 1 ∧ ¬ ∀ j, j < n → next (16 * j + s) = NONE) ∨ (v = 0 ∧ ∀ j, j < i → next (16 * j + s) = NONE)) n 0 0 (by omega) (Or.inr ⟨rfl, fun j hj => absurd hj (by omega)⟩) ?_ ?_
    · intro f' v hv
      refine tt (nI_le (Nat.le_refl n) (by omega)) ?_
      rcases hv with ⟨rfl, q⟩ | ⟨rfl, q⟩
      · refine y1 (nm ?_)
        rw [nI_1]
        refine ih () (fun j hj => ?_)
        by_cases ej : j = s
        · rw [ej]; exact (hA s hs).mpr q
        · exact hg j (by omega)
      · exact y0 (h _ (Or.inl ⟨s, hs, fun w => (hA s hs).mp w q, hg, rfl⟩))
    · intro f' i v hi hv ih'
      refine ff (nI_ge hi (by omega)) ?_
      rcases hv with ⟨rfl, q⟩ | ⟨rfl, q⟩
      · refine y1 (nm ?_)
        rw [nI_1 i]
        exact ih' _ (Or.inl ⟨rfl, q⟩)
      · refine y0 ?_
        rw [ixA]
        refine ⟨vp_in_nI (by omega) (by omega), ?_⟩
        rw [nI_cl (n := 16 * i + s) (by omega)]
        by_cases c : next (16 * i + s) = NONE
        · refine tt c (nm ?_)
          rw [nI_1 i]
          refine ih' _ (Or.inr ⟨rfl, fun j hj => ?_⟩)
          by_cases ej : j = i
          · rw [ej]; exact c
          · exact q j (by omega)
        · refine ff c (nm ?_)
          rw [nI_1 i]
          exact ih' _ (Or.inl ⟨rfl, fun w => c (w i hi)⟩)
theorem RC_none {n : Nat} {E : Nat → Nat → Prop} {i : Nat} (hi : i < n) : ¬ RC n E (fun _ => False) i := fun h => RC_min (A := fun _ => False) (fun _ _ q => q) (fun _ _ _ _ _ q => q) i hi h
theorem p_34 : St_34 Inw := by
  intro XI XA XL MI MA ML hI a1 a2 a3
  obtain ⟨P, S, hq, hN, hW, hPa, hH, hg, hF, hT, hb1, hb2, hs⟩ := id hI
  obtain ⟨q9, m0, q10, m1, k5, k27, k29, k24, k16, k4, k31, k10⟩ := id hq
  have hP16 : P ≤ 16 := hN.1.1
  have hS16 : S ≤ 16 := hN.1.2
  have hno : Inw (va_up (va_up (va_up (va_up (va_up (va_up XI 1 (XI 1)) 18 (XI 18)) 19 (XI 19)) 20 (XI 20)) 21 (XI 21)) 22 (XI 22)) (va_up (va_up (va_up (va_up (va_up (va_up (va_up (va_up (va_up (va_up (va_up (va_up (va_up XA 26 (XA 26)) 27 (XA 27)) 28 (XA 28)) 29 (XA 29)) 30 (XA 30)) 31 (XA 31)) 32 (XA 32)) 33 (XA 33)) 34 (XA 34)) 35 (XA 35)) 36 (XA 36)) 37 (XA 37)) 39 (XA 39)) (va_up XL 6 (XL 6)) (va_up (va_up (va_up MI 7 (MI 7)) 8 (MI 8)) 9 (MI 9)) (va_up (va_up (va_up (va_up (va_up (va_up (va_up MA 3 (MA 3)) 6 (MA 6)) 7 (MA 7)) 8 (MA 8)) 15 (MA 15)) 17 (MA 17)) 20 (MA 20)) ML := by simp only [up_same]; exact hI
  unfold ls_34 w_X9_works
  rw [q9, m0, q10, m1, k5, k27, k29, k16, k4, k24]
  rcases ix3 a1 P (by omega) with h | ⟨b, hb, rfl, h1, h2⟩
  · exact hasPlace_no h (z0 (isPlace_no h (z0 ⟨rfl, hno⟩)))
  refine hasPlace_yes h1 h2 (z1 ?_)
  rcases ix3 a2 P (by omega) with h | ⟨e, he, rfl, g1, g2⟩
  · exact hasPlace_no h (z0 (isPlace_yes h1 h2 (z1 (isPlace_no h (z0 ⟨rfl, hno⟩)))))
  refine hasPlace_yes g1 g2 (z1 ?_)
  by_cases c1 : a3 < 1
  · exact tt c1 (isPlace_yes h1 h2 (z1 (isPlace_yes g1 g2 (z1 (isIn_lo c1 (y0 ⟨rfl, hno⟩))))))
  refine ff c1 ?_
  by_cases c2 : ¬ a3 ≤ 8000
  · exact ff c2 (isPlace_yes h1 h2 (z1 (isPlace_yes g1 g2 (z1 (isIn_hi (nlt_le c2) (y0 ⟨rfl, hno⟩))))))
  have c2 := Decidable.not_not.mp c2
  refine tt c2 ?_
  obtain ⟨M, hM1, rfl⟩ : ∃ N : Nat, N ≤ 8000 ∧ a3 = nI N := nI_of2 (M := 8000) (by decide) (fun q => c1 (lt0_1 q)) c2
  have hM0 : 1 ≤ M := by
    rcases Nat.eq_zero_or_pos M with e | e
    · subst e; exact absurd (by decide) c1
    · exact e
  by_cases cz : ¬ XI 11 ≤ 0
  · exact ff cz (isPlace_yes h1 h2 (z1 (isPlace_yes g1 g2 (z1 (isIn_in c1 (le_nlt c2) (y1 (hasColN hN (fun q => absurd ((co_le hN).mpr q) cz) (fun _ => z1 ⟨rfl, hno⟩))))))))
  have cz := Decidable.not_not.mp cz
  have cz' := (co_le hN).mp cz
  refine tt cz (one_spec (by omega) (fun st hst => ?_))
  refine make_spec hN cz' hM0 hM1 (fun p hp => ?_) (fun n by' cells' former' heads' links' from' nexts' to' toT' hx' hM' => y1 ?_) (fun sz' by' cells' former' heads' links' from' nexts' to' toT' hM' => y0 ?_)
  · rw [hst p (by omega)]
    unfold oneAt
    split
    · exact ⟨1, rfl, by omega⟩
    · exact ⟨0, rfl, by omega⟩
  · refine one_spec (by omega) (fun en hen => ?_)
    obtain ⟨⟨x1, x1'⟩, x2, x3, x4, x5, x6, x7⟩ := id hx'
    have hrX : ∀ i t, i < n → t < S → nexts' (i * S + t) = NONE ∨ ∃ a : Nat, a < n ∧ nexts' (i * S + t) = nI a := fun i t hi ht => x7 i t ht (Or.inl hi)
    have mgo : ∀ (Q : Int32 → Int32 → Int32 → Int32 → (Nat → Int32) → (Nat → Int32) → (Nat → Int32) → (Nat → Int32) → (Nat → Int32) → (Nat → Int32) → (Nat → Int32) → Prop), (∀ mby' mfield' mformer' mnext' morder' come2, mF P S n n 0 by' cells' former' nexts' mby' mfield' mformer' mnext' morder' → (∀ p, p < P → come2 p = oneAt e p) → w_X10_numberOf (nI n) (nI P) come2 mfield' morder' (fun r42 => w_X10_leastNotTo (nI n) (nI S) (MA 15) mnext' r42 (fun r43 y44 =>
                    (r43 = (-2000000005 : Int32) →
                      w_X10_leastOther (nI n) mfield' (nI e) r42 (fun r47 =>
                      (r47 = (-2000000005 : Int32) →
                        w_X10_leastIdle (nI n) (nI S) mnext' (fun r50 =>
                        (r50 = (-2000000005 : Int32) →
                          (Q (0 : Int32) r50 (nI n) 1 mby' come2 mfield' mformer' y44 mnext' morder')) ∧
                        (¬ r50 = (-2000000005 : Int32) →
                          (Q (3 : Int32) r50 (nI n) 1 mby' come2 mfield' mformer' y44 mnext' morder')))) ∧
                      (¬ r47 = (-2000000005 : Int32) →
                        (Q (2 : Int32) r47 (nI n) 1 mby' come2 mfield' mformer' y44 mnext' morder')))) ∧
                    (¬ r43 = (-2000000005 : Int32) →
                      (Q (1 : Int32) r43 (nI n) 1 mby' come2 mfield' mformer' y44 mnext' morder'))))) → w_X10_works (MI 9) (MI 8) (MI 7) (nI P) (nI S) (MA 3) (XA 9) (XA 13) (MA 6) (MA 7) (MA 8) (MA 15) (XA 12) (MA 17) (MA 20) (XA 14) (XA 16) (XA 17) (nI b) (nI e) (nI M) Q := by
      intro Q hQ
      refine isPlace_yes h1 h2 (z1 (isPlace_yes g1 g2 (z1 (isIn_in c1 (le_nlt c2) (y1 (hasColN hN (fun _ => z0 (worksC hP16 (by omega) (fun z g hg' => ?_))) (fun q => absurd cz' q)))))))
      refine hM' _ (fun p hp => (hg' p hp).trans (hst p (by omega)).symm) (fun mby' come' mfield' mformer' mnext' morder' hm => nf ?_ (worksD hP16 (by omega) (fun z' come2 hc2 => hQ _ _ _ _ _ come2 hm hc2)))
      intro q
      have : nI n < 0 := by rw [q]; decide
      exact nI_pos (by omega) this
    -- the M side's rows
    have hrM : ∀ {mby mfield mformer mnext morder : Nat → Int32}, mF P S n n 0 by' cells' former' nexts' mby mfield mformer mnext morder → (∀ i t, i < n → t < S → nexts' (i * S + t) = mnext (16 * i + t)) := fun hm i t hi ht => hm.2.2.2 i t ht (Or.inl hi)
    have inw : ∀ (r : Int32) (t : Int32) (fi lv oi qu : Nat → Int32) (y44 mby mfield mformer mnext morder come2 : Nat → Int32), (t = 0 ∨ (t = 1 ∧ tnd S n nexts' fi oi)) → mF P S n n 0 by' cells' former' nexts' mby mfield mformer mnext morder → Inw (va_up (va_up (va_up (va_up (va_up (va_up XI 1 r) 18 1) 19 t) 20 (nI S)) 21 (nI P)) 22 (nI n)) (va_up (va_up (va_up (va_up (va_up (va_up (va_up (va_up (va_up (va_up (va_up (va_up (va_up XA 26 by') 27 cells') 28 former') 29 heads') 30 links') 31 fi) 32 from') 33 lv) 34 nexts') 35 oi) 36 qu) 37 to') 39 en) (va_up XL 6 toT') (va_up (va_up (va_up MI 7 1) 8 (nI n)) 9 r) (va_up (va_up (va_up (va_up (va_up (va_up (va_up MA 3 mby) 6 come2) 7 mfield) 8 mformer) 15 y44) 17 mnext) 20 morder) ML := by
      intro r t fi lv oi qu y44 mby mfield mformer mnext morder come2 ht hm
      obtain ⟨v1, v2, v3, v4, v5, v6, v7, v8, -⟩ := fRl_of (firstIn := fi) (otherIn := oi) hx' hm
      exact ⟨P, S, hq, hN, hW, hPa, hH, ⟨hg.1, rfl⟩, Or.inr ⟨rfl, rfl, n, rfl, rfl, rfl, rfl, v1, v2, v3, v4, v5, v6, v7, v8, ht⟩, hT, hb1, hb2, hs⟩
    refine indexOf_spec hP16 (Nat.le_refl _) (by omega) x6 (fun k hk hsm => tt (nI_pos' (by omega)) ?_) (fun hnone => ff (by decide) (ff (by decide) ?_))
    · refine astray_spec (E := fun i a => ∃ t, t < S ∧ nexts' (i * S + t) = nI a) (Z := fun i => i = k) (by omega) hS16 hk hrX (fun i a hi ha => Iff.rfl) (fun i hi => Iff.rfl) (Or.inl rfl) (fun r g o l qu htn hr => ?_)
      -- the reference up to its first answer
      have mfirst : ∀ (Q : Int32 → Int32 → Int32 → Int32 → (Nat → Int32) → (Nat → Int32) → (Nat → Int32) → (Nat → Int32) → (Nat → Int32) → (Nat → Int32) → (Nat → Int32) → Prop), (∀ mby' mfield' mformer' mnext' morder' come2 y44, mF P S n n 0 by' cells' former' nexts' mby' mfield' mformer' mnext' morder' → (r = (-2000000005 : Int32) → w_X10_leastOther (nI n) mfield' (nI e) (nI k) (fun r47 =>
                      (r47 = (-2000000005 : Int32) →
                        w_X10_leastIdle (nI n) (nI S) mnext' (fun r50 =>
                        (r50 = (-2000000005 : Int32) →
                          (Q (0 : Int32) r50 (nI n) 1 mby' come2 mfield' mformer' y44 mnext' morder')) ∧
                        (¬ r50 = (-2000000005 : Int32) →
                          (Q (3 : Int32) r50 (nI n) 1 mby' come2 mfield' mformer' y44 mnext' morder')))) ∧
                      (¬ r47 = (-2000000005 : Int32) →
                        (Q (2 : Int32) r47 (nI n) 1 mby' come2 mfield' mformer' y44 mnext' morder')))) ∧ (¬ r = (-2000000005 : Int32) → (Q (1 : Int32) r (nI n) 1 mby' come2 mfield' mformer' y44 mnext' morder'))) → w_X10_works (MI 9) (MI 8) (MI 7) (nI P) (nI S) (MA 3) (XA 9) (XA 13) (MA 6) (MA 7) (MA 8) (MA 15) (XA 12) (MA 17) (MA 20) (XA 14) (XA 16) (XA 17) (nI b) (nI e) (nI M) Q := by
        intro Q hQ
        refine mgo Q (fun mby' mfield' mformer' mnext' morder' come2 hm hc2 => ?_)
        have hrm := hrM hm
        have hkk : ∀ p, p < P → mR mfield' k p = come2 p := fun p hp => by
          show mfield' (16 * k + p) = _
          rw [← hm.1 k p hk hp, hsm p hp, hen p (by omega), hc2 p hp]
        refine numberOf_spec hP16 (by omega) hm.2.2.1 (fun j hj q => ?_) (fun q => absurd hkk (q k hk))
        have ej : j = k := x5 j k hj hk (fun p hp => by
          rw [hm.1 j p hj hp, hm.1 k p hk hp]
          exact (q p hp).trans (hkk p hp).symm)
        rw [ej]
        refine notTo_spec (E := fun i a => ∃ t, t < S ∧ nexts' (i * S + t) = nI a) (Z := fun i => i = k) (by omega) hS16 (fun i t hi ht => by rw [← hrm i t hi ht]; exact hrX i t hi ht) (fun i a hi ha => ?_) (fun i hi => ⟨fun q => by rw [q], fun q => nI_inj (by omega) (by omega) q⟩) (fun r' lv' hr' => ?_)
        · exact ⟨fun ⟨t, ht, e⟩ => ⟨t, ht, by rw [← hrm i t hi ht]; exact e⟩, fun ⟨t, ht, e⟩ => ⟨t, ht, by rw [hrm i t hi ht]; exact e⟩⟩
        · rw [← LO_uniq hr hr']
          exact hQ _ _ _ _ _ come2 lv' hm
      by_cases cr : r = NONE
      · refine tt cr ?_
        refine otherX (A := fun i => nI i = nI k ∨ cells' (i * P + e) ≤ 0) (by omega) hP16 he (fun i hi => Iff.rfl) (fun r43 hr43 => ?_)
        have moth : ∀ {mby mfield mformer mnext morder : Nat → Int32}, mF P S n n 0 by' cells' former' nexts' mby mfield mformer mnext morder → ∀ i, i < n → ((nI i = nI k ∨ cells' (i * P + e) ≤ 0) ↔ (nI i = nI k ∨ mfield (16 * i + e) ≤ 0)) := fun hm i hi => by rw [hm.1 i e hi he]
        by_cases c43 : r43 = NONE
        · refine tt c43 ?_
          refine idleX (by omega) hS16 hrX (fun r46 hr46 => ?_)
          have midle : ∀ {mby mfield mformer mnext morder : Nat → Int32}, mF P S n n 0 by' cells' former' nexts' mby mfield mformer mnext morder → ∀ s, s < S → ((¬ ∀ i, i < n → nexts' (i * S + s) = NONE) ↔ ¬ ∀ i, i < n → mnext (16 * i + s) = NONE) := fun hm s hs' => by
            constructor
            · exact fun q w => q (fun i hi => by rw [hrM hm i s hi hs']; exact w i hi)
            · exact fun q w => q (fun i hi => by rw [← hrM hm i s hi hs']; exact w i hi)
          have mlast : ∀ x : Int32, ((¬ r46 = NONE ∧ x = 3) ∨ (r46 = NONE ∧ x = 0)) → w_X10_works (MI 9) (MI 8) (MI 7) (nI P) (nI S) (MA 3) (XA 9) (XA 13) (MA 6) (MA 7) (MA 8) (MA 15) (XA 12) (MA 17) (MA 20) (XA 14) (XA 16) (XA 17) (nI b) (nI e) (nI M) (fun r22 y23 y24 y25 y26 y27 y28 y29 y30 y31 y32 => x = r22 ∧ Inw (va_up (va_up (va_up (va_up (va_up (va_up XI 1 r46) 18 1) 19 1) 20 (nI S)) 21 (nI P)) 22 (nI n)) (va_up (va_up (va_up (va_up (va_up (va_up (va_up (va_up (va_up (va_up (va_up (va_up (va_up XA 26 by') 27 cells') 28 former') 29 heads') 30 links') 31 g) 32 from') 33 l) 34 nexts') 35 o) 36 qu) 37 to') 39 en) (va_up XL 6 toT') (va_up (va_up (va_up MI 7 y25) 8 y24) 9 y23) (va_up (va_up (va_up (va_up (va_up (va_up (va_up MA 3 y26) 6 y27) 7 y28) 8 y29) 15 y30) 17 y31) 20 y32) ML) := by
            intro x hx
            refine mfirst _ (fun mby' mfield' mformer' mnext' morder' come2 y44 hm => tt cr ?_)
            refine otherM (A := fun i => nI i = nI k ∨ cells' (i * P + e) ≤ 0) (by omega) (by omega) (moth hm) (fun r47 hr47 => ?_)
            rw [← LO_uniq hr43 hr47]
            refine tt c43 ?_
            refine idleM (A := fun s => ¬ ∀ i, i < n → nexts' (i * S + s) = NONE) (by omega) hS16 (midle hm) (fun r50 hr50 => ?_)
            rw [← LO_uniq hr46 hr50]
            rcases hx with ⟨d1, d2⟩ | ⟨d1, d2⟩
            · exact ff d1 ⟨d2, inw _ _ _ _ _ _ _ _ _ _ _ _ _ (Or.inr ⟨rfl, htn⟩) hm⟩
            · exact tt d1 ⟨d2, inw _ _ _ _ _ _ _ _ _ _ _ _ _ (Or.inr ⟨rfl, htn⟩) hm⟩
          by_cases c46 : r46 = NONE
          · exact nt c46 (mlast 0 (Or.inr ⟨c46, rfl⟩))
          · exact nf c46 (mlast 3 (Or.inl ⟨c46, rfl⟩))
        · refine ff c43 ?_
          refine mfirst _ (fun mby' mfield' mformer' mnext' morder' come2 y44 hm => tt cr ?_)
          refine otherM (A := fun i => nI i = nI k ∨ cells' (i * P + e) ≤ 0) (by omega) (by omega) (moth hm) (fun r47 hr47 => ?_)
          rw [← LO_uniq hr43 hr47]
          exact ff c43 ⟨rfl, inw _ _ _ _ _ _ _ _ _ _ _ _ _ (Or.inr ⟨rfl, htn⟩) hm⟩
      · exact ff cr (mfirst _ (fun mby' mfield' mformer' mnext' morder' come2 y44 hm => ff cr ⟨rfl, inw _ _ _ _ _ _ _ _ _ _ _ _ _ (Or.inr ⟨rfl, htn⟩) hm⟩))
    · refine mgo _ (fun mby' mfield' mformer' mnext' morder' come2 hm hc2 => ?_)
      have hrm := hrM hm
      refine numberOf_spec hP16 (by omega) hm.2.2.1 (fun j hj q => absurd (fun p hp => ?_) (hnone j hj)) (fun _ => ?_)
      · rw [hm.1 j p hj hp, hen p (by omega), ← hc2 p hp]; exact q p hp
      · refine notTo_spec (E := fun i a => ∃ t, t < S ∧ nexts' (i * S + t) = nI a) (Z := fun _ => False) (by omega) hS16 (fun i t hi ht => by rw [← hrm i t hi ht]; exact hrX i t hi ht) (fun i a hi ha => ?_) (fun i hi => ⟨fun q => q.elim, fun q => nI_none (by omega) q⟩) (fun r' lv' hr' => ?_)
        · exact ⟨fun ⟨t, ht, e⟩ => ⟨t, ht, by rw [← hrm i t hi ht]; exact e⟩, fun ⟨t, ht, e⟩ => ⟨t, ht, by rw [hrm i t hi ht]; exact e⟩⟩
        · have e0 : r' = 0 := by
            rcases hr' with ⟨i, i1, i2, i3, i4⟩ | ⟨i1, -⟩
            · rcases Nat.eq_zero_or_pos i with z | z
              · rw [i4, z]; rfl
              · exact absurd (i3 0 z) (RC_none (by omega))
            · exact absurd (i1 0 (by omega)) (RC_none (by omega))
          rw [e0]
          exact ff (by decide) ⟨rfl, inw _ _ _ _ _ _ _ _ _ _ _ _ _ (Or.inl rfl) hm⟩
  · refine isPlace_yes h1 h2 (z1 (isPlace_yes g1 g2 (z1 (isIn_in c1 (le_nlt c2) (y1 (hasColN hN (fun _ => z0 (worksC hP16 (by omega) (fun z g hg' => ?_))) (fun q => absurd cz' q)))))))
    refine hM' _ (fun p hp => (hg' p hp).trans (hst p (by omega)).symm) (fun mby' come' mfield' mformer' mnext' morder' => nt rfl ⟨rfl, ?_⟩)
    exact ⟨P, S, hq, hN, hW, hPa, hH, hg, Or.inl ⟨rfl, rfl, rfl⟩, hT, hb1, hb2, hs⟩
