/-! ===== whether a step may ===== -/
def ofKb (a w : Int32) : Bool := decide (w = 0) || decide (a = w) || (decide (w = 1) && decide (a = 2))
theorem kX_yes {a w : Int32} {post : Int32 → Prop} (h : ofKb a w = true) (k : post 1) : w_X3_isOfKind a w post := by
  unfold w_X3_isOfKind
  refine ⟨fun _ => k, fun h1 => ⟨fun _ => k, fun h2 => ⟨fun h3 => ?_, fun h3 => ⟨fun h4 => ?_, fun _ => k⟩⟩⟩⟩ <;> (exfalso; simp_all [ofKb])
theorem kX_no {a w : Int32} {post : Int32 → Prop} (h : ¬ ofKb a w = true) (k : post 0) : w_X3_isOfKind a w post := by
  unfold w_X3_isOfKind
  refine ⟨fun h1 => ?_, fun h1 => ⟨fun h2 => ?_, fun h2 => ⟨fun h3 => k, fun h3 => ⟨fun h4 => k, fun h4 => ?_⟩⟩⟩⟩ <;> (exfalso; simp_all [ofKb])
theorem kM_yes {a w : Int32} {post : Int32 → Prop} (h : ofKb a w = true) (k : post 1) : w_X10_isOfKind a w post := by
  unfold w_X10_isOfKind
  refine ⟨fun _ => k, fun h1 => ⟨fun _ => k, fun h2 => ⟨fun h3 => ?_, fun h3 => ⟨fun h4 => ?_, fun _ => k⟩⟩⟩⟩ <;> (exfalso; simp_all [ofKb])
theorem kM_no {a w : Int32} {post : Int32 → Prop} (h : ¬ ofKb a w = true) (k : post 0) : w_X10_isOfKind a w post := by
  unfold w_X10_isOfKind
  refine ⟨fun h1 => ?_, fun h1 => ⟨fun h2 => ?_, fun h2 => ⟨fun h3 => k, fun h3 => ⟨fun h4 => k, fun h4 => ?_⟩⟩⟩⟩ <;> (exfalso; simp_all [ofKb])
/-- how many of the first n things of a place are of a kind: packed, in a row -/
def cW (t : Nat) (w : Int32) : Nat → Nat
  | 0 => 0
  | n + 1 => cW t w n + (if ofKb (nI (t / 4 ^ n % 4)) w = true then 1 else 0)
def cM (mth : Nat → Int32) (w : Int32) (p : Nat) : Nat → Nat
  | 0 => 0
  | n + 1 => cM mth w p n + (if ofKb (mth (20 * p + n)) w = true then 1 else 0)
theorem cW_cM {t p : Nat} {w : Int32} {mth : Nat → Int32} : ∀ n, (∀ i, i < n → mth (20 * p + i) = nI (t / 4 ^ i % 4)) → cM mth w p n = cW t w n
  | 0, _ => rfl
  | n + 1, h => by
    show cM mth w p n + _ = cW t w n + _
    rw [cW_cM n (fun i hi => h i (by omega)), h n (by omega)]
theorem cM_le {p : Nat} {w : Int32} {mth : Nat → Int32} : ∀ n, cM mth w p n ≤ n
  | 0 => Nat.le_refl 0
  | n + 1 => by
    have := cM_le (p := p) (w := w) (mth := mth) n
    show cM mth w p n + (if _ then 1 else 0) ≤ n + 1
    split <;> omega
theorem pow40 {t v : Nat} (hv : v ≤ 20) (h : t < 4 ^ v) : t < 2 ^ 40 := Nat.lt_of_lt_of_le h (by
  have : (4 : Nat) ^ v ≤ 4 ^ 20 := Nat.pow_le_pow_right (by omega) hv
  have e : (4 : Nat) ^ 20 = 2 ^ 40 := by decide
  omega)
theorem manyOf_spec {many : Nat → Int32} {things : Nat → Int64} {p v t : Nat} {w : Int32} {post : Int32 → Prop} (hp : p < 16) (h1 : many p = nI v) (hv : v ≤ 20) (h2 : things p = lN t) (ht : t < 4 ^ v) (k : post (nI (cW t w v))) : w_X3_manyOf many things (nI p) w post := by
  have hin : vp_in (nI p) 16 := vp_in_nI hp (by omega)
  have hcl : (nI p).toNatClampNeg = p := nI_cl (by omega)
  refine pk_loop (fun n i (g : Int32) => w_X3_manyOf_L5 (nI p) w many things post (fun v12 _ => post v12) n g (nI i)) (fun i g => g = nI (cW t w i)) v 0 0 (by omega) rfl ?_ ?_
  · intro n g hg
    subst hg
    refine ⟨hin, tt ?_ k⟩
    rw [hcl, h1]
    exact nI_le (Nat.le_refl v) (by omega)
  · intro n i g hi hg ih
    subst hg
    refine ⟨hin, ff ?_ ⟨hin, ?_⟩⟩
    · rw [hcl, h1]; exact nI_ge hi (by omega)
    · unfold w_X3_kindIn
      rw [hcl, h2, kind_val (pow40 hv ht) (by omega)]
      by_cases c : ofKb (nI (t / 4 ^ i % 4)) w = true
      · refine kX_yes c (z1 (nm (nm ?_)))
        rw [nI_1, nI_1]
        refine ih _ ?_
        show nI (cW t w i + 1) = nI (cW t w i + _)
        rw [if_pos c]
      · refine kX_no c (z0 (nm (nm ?_)))
        rw [nI_1]
        refine ih _ ?_
        show nI (cW t w i) + nI 0 = nI (cW t w i + _)
        rw [if_neg c, nI_add]
/-- a step's claim on a place -/
def AL (pk tk nd cl many : Nat → Int32) (cnt : Nat → Nat) (s p : Nat) : Prop := ¬ many p < tk (16 * s + p) ∧ ¬ many p < nd (16 * s + p) ∧ (cl (16 * s + p) = 0 ∨ many p = 0) ∧ (pk p = 0 ∨ ¬ nI (cnt p) < tk (16 * s + p))
theorem sshr_bit {x : Int32} {p : Nat} (hp : p < 31) : ((x >>> (nI p &&& 31)) &&& 1) = 0 ↔ bt x p = false := by
  constructor
  · intro h
    have := congrArg (fun y => bt y 0) h
    simp only [b_and, b_0] at this
    rw [b_sshr p (by omega) x (by omega), if_pos (by omega), b_1 0 (by omega)] at this
    simpa using this
  · intro h
    refine b_ext (fun i hi => ?_)
    rw [b_and, b_0, b_1 i hi]
    by_cases e : i = 0
    · subst e
      rw [b_sshr p (by omega) x (by omega), if_pos (by omega)]
      simp [h]
    · simp [e]
theorem sshr_zero {x : Int32} {p : Nat} (hp : p < 31) (h : (x >>> (nI p &&& 31)) = 0) : ∀ i, p ≤ i → i < 32 → bt x i = false := by
  intro i h1 h2
  have := congrArg (fun y => bt y (i - p)) h
  simp only [b_0] at this
  rw [b_sshr p (by omega) x (by omega), if_pos (by omega)] at this
  rwa [show p + (i - p) = i by omega] at this
theorem allows_gen {P s : Nat} {cl hd nd pk tk wt many : Nat → Int32} {things : Nat → Int64} {cnt : Nat → Nat} {post : Int32 → Prop} (hP : P ≤ 16) (hs : s < 16)
    (t1 : ∀ i, i < 256 → ∃ v : Nat, v ≤ 9 ∧ tk i = nI v) (t2 : ∀ i, i < 256 → cl i = 0 ∨ cl i = 1) (hm : ∀ i, i < 32 → bt (hd s) i = decide (i < 16 ∧ (¬ tk (16 * s + i) = 0 ∨ ¬ nd (16 * s + i) = 0 ∨ ¬ cl (16 * s + i) = 0)))
    (hnn : ∀ p, p < P → ¬ many p < 0) (hcn : ∀ p, p < P → cnt p < 2 ^ 31) (hc : ∀ p, p < P → pk p = 0 ∨ (pk p = 1 ∧ ∃ v t : Nat, many p = nI v ∧ v ≤ 20 ∧ things p = lN t ∧ t < 4 ^ v ∧ cnt p = cW t (wt (16 * s + p)) v))
    (h1 : (∀ p, p < P → AL pk tk nd cl many cnt s p) → post 1) (h0 : (¬ ∀ p, p < P → AL pk tk nd cl many cnt s p) → post 0) : w_X5_allows (nI P) cl hd nd pk tk wt many things (nI s) post := by
  have off : ∀ p, p < P → bt (hd s) p = false → AL pk tk nd cl many cnt s p := by
    intro p hp hb
    rw [hm p (by omega)] at hb
    have hb := of_decide_eq_false hb
    have e1 : tk (16 * s + p) = 0 := Classical.byContradiction fun q => hb ⟨by omega, Or.inl q⟩
    have e2 : nd (16 * s + p) = 0 := Classical.byContradiction fun q => hb ⟨by omega, Or.inr (Or.inl q)⟩
    have e3 : cl (16 * s + p) = 0 := Classical.byContradiction fun q => hb ⟨by omega, Or.inr (Or.inr q)⟩
    refine ⟨by rw [e1]; exact hnn p hp, by rw [e2]; exact hnn p hp, Or.inl e3, Or.inr ?_⟩
    rw [e1]; exact nI_pos (hcn p hp)
  refine ⟨vp_in_nI hs (by omega), nm ?_⟩
  rw [nI_cl (n := s) (by omega)]
  refine pk_loop (fun n i (_ : Unit) => w_X5_allows_L10 (nI s) (hd s) (nI P) cl hd nd pk tk wt many things post (fun _ => post 1) n (nI i)) (fun i _ => ∀ p, p < i → AL pk tk nd cl many cnt s p) P 0 () (by omega) (fun p hp => absurd hp (by omega)) ?_ ?_
  · intro n _ hg
    exact tt (nI_le (Nat.le_refl P) (by omega)) (h1 hg)
  · intro n i _ hi hg ih
    have nxt : AL pk tk nd cl many cnt s i → ∀ p, p < i + 1 → AL pk tk nd cl many cnt s p := fun ha p hp => by
      by_cases e : p = i
      · subst e; exact ha
      · exact hg p (by omega)
    refine ff (nI_ge hi (by omega)) ?_
    by_cases c : ((hd s) >>> (nI i &&& 31)) = 0
    · refine tt c (h1 (fun p hp => ?_))
      by_cases e : p < i
      · exact hg p e
      · exact off p hp (sshr_zero (by omega) c p (by omega) (by omega))
    refine ff c ?_
    by_cases b : (((hd s) >>> (nI i &&& 31)) &&& 1) = 0
    · refine nt b (nm ?_)
      rw [nI_1]
      exact ih () (nxt (off i hi ((sshr_bit (by omega)).mp b)))
    refine nf b ?_
    have hx : vp_in (nI (16 * s + i)) 256 := vp_in_nI (by omega) (by omega)
    have hii : vp_in (nI i) 16 := vp_in_nI (by omega) (by omega)
    unfold w_X9_crossing
    rw [ixC]
    refine ⟨hii, nm ⟨hx, ?_⟩⟩
    rw [nI_cl (n := 16 * s + i) (by omega), nI_cl (n := i) (by omega)]
    by_cases d1 : many i < tk (16 * s + i)
    · exact tt d1 (h0 (fun q => (q i hi).1 d1))
    refine ff d1 ⟨hx, ?_⟩
    by_cases d2 : many i < nd (16 * s + i)
    · exact tt d2 (h0 (fun q => (q i hi).2.1 d2))
    refine ff d2 ?_
    obtain ⟨tv, htv, et⟩ := t1 (16 * s + i) (by omega)
    -- what is left when the place isn't closed to it
    have rest : (cl (16 * s + i) = 0 ∨ many i = 0) → (((tk (16 * s + i)) ≤ 0 → ∀ x18 : Int32, x18 = nI i + (1 : Int32) → w_X5_allows_L10 (nI s) (hd s) (nI P) cl hd nd pk tk wt many things post (fun _ => post 1) n x18) ∧ (¬ (tk (16 * s + i)) ≤ 0 → w_X5_isColoured pk (nI i) (fun r19 => (r19 = 0 → ∀ x22 : Int32, x22 = nI i + (1 : Int32) → w_X5_allows_L10 (nI s) (hd s) (nI P) cl hd nd pk tk wt many things post (fun _ => post 1) n x22) ∧ (¬ r19 = 0 → vp_in (nI (16 * s + i)) 256 ∧ w_X3_manyOf many things (nI i) (wt (16 * s + i)) (fun r23 => vp_in (nI (16 * s + i)) 256 ∧ ((tk (16 * s + i)) ≤ r23 → ∀ x26 : Int32, x26 = nI i + (1 : Int32) → w_X5_allows_L10 (nI s) (hd s) (nI P) cl hd nd pk tk wt many things post (fun _ => post 1) n x26) ∧ (¬ (tk (16 * s + i)) ≤ r23 → post 0)))))) := by
      intro d3
      by_cases d4 : tk (16 * s + i) ≤ 0
      · refine tt d4 (nm ?_)
        rw [nI_1]
        refine ih () (nxt ⟨d1, d2, d3, Or.inr ?_⟩)
        rw [et] at d4 ⊢
        rw [(nI_le0 (by omega)).mp d4]
        exact nI_pos (hcn i hi)
      · refine ff d4 ?_
        rcases hc i hi with c0 | ⟨c1, v, t, k1, k2, k3, k4, k5⟩
        · refine isCol_no (by omega) (by rw [c0]; decide) (z0 (nm ?_))
          rw [nI_1]
          exact ih () (nxt ⟨d1, d2, d3, Or.inl c0⟩)
        · refine isCol_yes (by omega) c1 (z1 ⟨hx, manyOf_spec (by omega) k1 k2 k3 k4 ⟨hx, ?_⟩⟩)
          rw [← k5]
          by_cases d5 : tk (16 * s + i) ≤ nI (cnt i)
          · refine tt d5 (nm ?_)
            rw [nI_1]
            exact ih () (nxt ⟨d1, d2, d3, Or.inr (le_nlt d5)⟩)
          · refine ff d5 (h0 (fun q => ?_))
            rcases (q i hi).2.2.2 with e | e
            · rw [c1] at e; exact absurd e (by decide)
            · exact d5 (Int32.not_lt.mp e)
    by_cases d3 : many i ≤ 0
    · have e0 : many i = 0 := by
        have a1 := Int32.le_iff_toInt_le.mp d3
        have a2 : ¬ (many i).toInt < (0 : Int32).toInt := fun q => hnn i hi (Int32.lt_iff_toInt_lt.mpr q)
        refine Int32.toInt_inj.mp ?_
        omega
      exact tt d3 ⟨hx, rest (Or.inr e0)⟩
    · refine ff d3 ⟨hx, ?_⟩
      rcases t2 (16 * s + i) (by omega) with e | e
      · exact nf (by rw [e]; decide) ⟨hx, rest (Or.inl e)⟩
      · refine nt e (h0 (fun q => ?_))
        rcases (q i hi).2.2.1 with r | r
        · rw [e] at r; exact absurd r (by decide)
        · rw [r] at d3; exact d3 (by decide)
