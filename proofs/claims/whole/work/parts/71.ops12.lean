/-! ===== too full; the past is kept ===== -/
theorem i_re (h t p : Int32) : (h - t) + p = h + (p - t) := by
  rw [Int32.sub_eq_add_neg, Int32.sub_eq_add_neg, Int32.add_assoc, Int32.add_comm (-t) p]
/-- a place has room for what a step leaves there -/
def RM (pk tk pt has : Nat → Int32) (s p : Nat) : Prop := has p + (pt (16 * s + p) - tk (16 * s + p)) ≤ (if pk p = 1 then 20 else 1000000000)
theorem over_spec {P s : Nat} {pk pt tk many has : Nat → Int32} {post : Int32 → Prop} (hP : P ≤ 16) (hs : s < 16) (he : ∀ p, p < P → many p = has p) (h0 : (∀ p, p < P → RM pk tk pt has s p) → post 0) (h1 : (¬ ∀ p, p < P → RM pk tk pt has s p) → post 1) : w_X5_overfills (nI P) pk pt tk many (nI s) post := by
  refine pk_loop (fun n i (_ : Unit) => w_X5_overfills_L2 (nI s) (nI P) pk pt tk many post (fun _ => post 0) n (nI i)) (fun i _ => ∀ p, p < i → RM pk tk pt has s p) P 0 () (by omega) (fun p hp => absurd hp (by omega)) ?_ ?_
  · intro n _ hg
    exact tt (nI_le (Nat.le_refl P) (by omega)) (h0 hg)
  · intro n i _ hi hg ih
    have hii : vp_in (nI i) 16 := vp_in_nI (by omega) (by omega)
    have nxt : RM pk tk pt has s i → ∀ p, p < i + 1 → RM pk tk pt has s p := fun ha p hp => by
      by_cases e : p = i
      · subst e; exact ha
      · exact hg p (by omega)
    refine ff (nI_ge hi (by omega)) ?_
    by_cases c : pk i = 1
    · refine isCol_yes (by omega) c (z1 ⟨hii, changeX_spec hs (by omega) ?_⟩)
      rw [nI_cl (n := i) (by omega), he i hi]
      by_cases d : has i + (pt (16 * s + i) - tk (16 * s + i)) ≤ 20
      · refine tt d (nm ?_)
        rw [nI_1]
        exact ih () (nxt (by unfold RM; rw [if_pos c]; exact d))
      · exact ff d (h1 (fun q => d (by have := q i hi; unfold RM at this; rw [if_pos c] at this; exact this)))
    · refine isCol_no (by omega) c (z0 ⟨hii, changeX_spec hs (by omega) ?_⟩)
      rw [nI_cl (n := i) (by omega), he i hi]
      by_cases d : has i + (pt (16 * s + i) - tk (16 * s + i)) ≤ 1000000000
      · refine tt d (nm ?_)
        rw [nI_1]
        exact ih () (nxt (by unfold RM; rw [if_neg c]; exact d))
      · exact ff d (h1 (fun q => d (by have := q i hi; unfold RM at this; rw [if_neg c] at this; exact this)))
theorem full_spec {P s : Nat} {pk pt tk has : Nat → Int32} {post : Int32 → Prop} (hP : P ≤ 16) (hs : s < 16) (h0 : (∀ p, p < P → RM pk tk pt has s p) → post 0) (h1 : (¬ ∀ p, p < P → RM pk tk pt has s p) → post 1) : w_X10_isFull (nI P) pk has pt tk (nI s) post := by
  refine pk_loop (fun n i (v : Int32) => w_X10_isFull_L4 (nI s) (nI P) pk has pt tk post (fun v19 _ => v19 &&& 1 = v19 ∧ post v19) n v (nI i)) (fun i v => (v = 0 ∧ ∀ p, p < i → RM pk tk pt has s p) ∨ (v = 1 ∧ ∃ p, p < i ∧ ¬ RM pk tk pt has s p)) P 0 0 (by omega) (Or.inl ⟨rfl, fun p hp => absurd hp (by omega)⟩) ?_ ?_
  · intro n v hg
    refine tt (nI_le (Nat.le_refl P) (by omega)) ?_
    rcases hg with ⟨rfl, q⟩ | ⟨rfl, p, hp, q⟩
    · exact ⟨by decide, h0 q⟩
    · exact ⟨by decide, h1 (fun r => q (r p hp))⟩
  · intro n i v hi hg ih
    have hii : vp_in (nI i) 16 := vp_in_nI (by omega) (by omega)
    have hx : vp_in (nI (16 * s + i)) 256 := vp_in_nI (by omega) (by omega)
    refine ff (nI_ge hi (by omega)) (nm ?_)
    rw [ixA]
    refine ⟨hii, hx, hx, nm ?_⟩
    rw [nI_cl (n := i) (by omega), nI_cl (n := 16 * s + i) (by omega), i_re]
    rcases hg with ⟨rfl, q⟩ | ⟨rfl, p, hp, q⟩
    · have nxt : RM pk tk pt has s i → ∀ p, p < i + 1 → RM pk tk pt has s p := fun ha p hp => by
        by_cases e : p = i
        · subst e; exact ha
        · exact q p (by omega)
      refine y0 ⟨hii, ?_⟩
      by_cases c : pk i = 1
      · refine nt c ?_
        by_cases d : has i + (pt (16 * s + i) - tk (16 * s + i)) ≤ 20
        · refine tt d (nm ?_)
          rw [nI_1]
          exact ih _ (Or.inl ⟨rfl, nxt (by unfold RM; rw [if_pos c]; exact d)⟩)
        · refine ff d (nm ?_)
          rw [nI_1]
          exact ih _ (Or.inr ⟨rfl, i, by omega, by unfold RM; rw [if_pos c]; exact d⟩)
      · refine nf c ?_
        by_cases d : has i + (pt (16 * s + i) - tk (16 * s + i)) ≤ 1000000000
        · refine tt d (nm ?_)
          rw [nI_1]
          exact ih _ (Or.inl ⟨rfl, nxt (by unfold RM; rw [if_neg c]; exact d)⟩)
        · refine ff d (nm ?_)
          rw [nI_1]
          exact ih _ (Or.inr ⟨rfl, i, by omega, by unfold RM; rw [if_neg c]; exact d⟩)
    · refine y1 (nm ?_)
      rw [nI_1]
      exact ih _ (Or.inr ⟨rfl, p, by omega, q⟩)
theorem rem256 {a : Nat} (ha : a < 2 ^ 31) : nI a - nI a / (256 : Int32) * (256 : Int32) = nI (a % 256) := pk_rem (d := 256) ha (by omega) (by omega)
/-- the class notes a going -/
theorem note_spec {E K s : Nat} {co : Int32} {steps : Nat → Int32} {pth things : Nat → Int64} {post : Int32 → Int32 → (Nat → Int32) → (Nat → Int64) → Prop} (hE : E < 256) (hK : K ≤ 256) (h : ∀ pth', (co ≤ 0 → pth' = pth) → (¬ co ≤ 0 → ∀ q, pth' q = if 16 * E ≤ q ∧ q < 16 * E + 16 then things (q - 16 * E) else pth q) → post (nI ((E + 1) % 256)) (nI (if K = 256 then 256 else K + 1)) (upd steps E (nI s)) pth') : w_X6_note (nI E) (nI K) co steps pth things (nI s) post := by
  have hin : vp_in (nI E) 256 := vp_in_nI hE (by omega)
  have em : (if (256 : Int32) < nI K + 1 then (256 : Int32) else nI K + 1) = nI (if K = 256 then 256 else K + 1) := by
    rw [nI_1]
    by_cases e : K = 256
    · subst e; rw [if_pos rfl, if_pos (by decide)]; rfl
    · rw [if_neg e, if_neg]
      rw [show (256 : Int32) = nI 256 from rfl, nI_ltI (by omega) (by omega)]
      omega
  by_cases c : co ≤ 0
  · refine tt c ⟨hin, nm (nm ?_)⟩
    rw [em, nI_1, rem256 (by omega), nI_cl (n := E) (by omega)]
    exact h _ (fun _ => rfl) (fun q => absurd c q)
  · have e16 : nI E * (16 : Int32) = nI (16 * E) := by rw [show (16 : Int32) = nI 16 from rfl, pk_mul, Nat.mul_comm]
    have c16 : (16 : Int32).toNatClampNeg = 16 := by decide
    have c0 : (0 : Int32).toNatClampNeg = 0 := by decide
    refine ff c ⟨⟨by decide, ?_, by decide, by decide, ?_⟩, hin, nm (nm ?_)⟩
    · rw [e16]; exact nI_pos (by omega)
    · rw [e16, nI_cl (by omega), c16]; omega
    · rw [em, nI_1, rem256 (by omega), nI_cl (n := E) (by omega), e16, nI_cl (n := 16 * E) (by omega), c16, c0]
      refine h _ (fun q => absurd q c) (fun _ q => ?_)
      by_cases d : 16 * E ≤ q ∧ q < 16 * E + 16
      · rw [if_pos d, pk_cpy_in d.1 d.2, Nat.zero_add]
      · rw [if_neg d, pk_cpy_out (by omega)]
theorem keepH_spec {a : Nat} {x y : Int32} {has ps pts mth f : Nat → Int32} {post : Int32 → Int32 → (Nat → Int32) → (Nat → Int32) → (Nat → Int32) → Prop} {K : Int32 → (Nat → Int32) → Prop} (ha : a < 256) (h : ∀ z g, (∀ q, g q = if 16 * a ≤ q ∧ q < 16 * a + 16 then has (q - 16 * a) else f q) → K z g) : ∃ n : Nat, w_X10_keep_L67 (nI a) x y has ps pts mth post K n 0 f := by
  refine pk_loop (fun n i (g : Nat → Int32) => w_X10_keep_L67 (nI a) x y has ps pts mth post K n (nI i) g) (fun i g => ∀ q, g q = if 16 * a ≤ q ∧ q < 16 * a + i then has (q - 16 * a) else f q) 16 0 f (by omega) (fun q => by rw [if_neg (by omega)]) ?_ ?_
  · intro n g hg
    exact tt (by decide) (h _ g hg)
  · intro n i g hi hg ih
    refine ff (nI_ge (b := 16) hi (by omega)) ⟨vp_in_nI hi (by omega), ?_⟩
    rw [ixA]
    refine ⟨vp_in_nI (by omega) (by omega), nm ?_⟩
    rw [nI_1, nI_cl (n := 16 * a + i) (by omega), nI_cl (n := i) (by omega)]
    refine ih _ (fun q => ?_)
    by_cases e : q = 16 * a + i
    · rw [e, pk_us, if_pos (by omega)]
      congr 1
      omega
    · rw [pk_un e, hg q]
      by_cases d : 16 * a ≤ q ∧ q < 16 * a + i
      · rw [if_pos d, if_pos (by omega)]
      · rw [if_neg d, if_neg (by omega)]
theorem ix320 (a b : Nat) : (320 : Int32) * nI a + nI b = nI (320 * a + b) := by
  rw [show (320 : Int32) = nI 320 from rfl, pk_mul, nI_add]
theorem keepT_spec {a : Nat} {x y : Int32} {has ph ps mth f : Nat → Int32} {post : Int32 → Int32 → (Nat → Int32) → (Nat → Int32) → (Nat → Int32) → Prop} {K : Int32 → (Nat → Int32) → Prop} (ha : a < 256) (h : ∀ z g, (∀ q, g q = if 320 * a ≤ q ∧ q < 320 * a + 320 then mth (q - 320 * a) else f q) → K z g) : ∃ n : Nat, w_X10_keep_L98 (nI a) x y has ph ps mth post K n 0 f := by
  refine pk_loop (fun n i (g : Nat → Int32) => w_X10_keep_L98 (nI a) x y has ph ps mth post K n (nI i) g) (fun i g => ∀ q, g q = if 320 * a ≤ q ∧ q < 320 * a + i then mth (q - 320 * a) else f q) 320 0 f (by omega) (fun q => by rw [if_neg (by omega)]) ?_ ?_
  · intro n g hg
    exact tt (by decide) (h _ g hg)
  · intro n i g hi hg ih
    refine ff (nI_ge (b := 320) hi (by omega)) ⟨vp_in_nI hi (by omega), ?_⟩
    rw [ix320]
    refine ⟨vp_in_nI (by omega) (by omega), nm ?_⟩
    rw [nI_1, nI_cl (n := 320 * a + i) (by omega), nI_cl (n := i) (by omega)]
    refine ih _ (fun q => ?_)
    by_cases e : q = 320 * a + i
    · rw [e, pk_us, if_pos (by omega)]
      congr 1
      omega
    · rw [pk_un e, hg q]
      by_cases d : 320 * a ≤ q ∧ q < 320 * a + i
      · rw [if_pos d, if_pos (by omega)]
      · rw [if_neg d, if_neg (by omega)]
/-- the reference keeps a going: at the place behind the last one, the oldest gives way -/
theorem keep_spec {F K s : Nat} {has ph ps pts mth : Nat → Int32} {post : Int32 → Int32 → (Nat → Int32) → (Nat → Int32) → (Nat → Int32) → Prop} (hF : F < 256) (hK : K ≤ 256)
    (h : ∀ ph' pts', (∀ q, ph' q = if 16 * ((F + K) % 256) ≤ q ∧ q < 16 * ((F + K) % 256) + 16 then has (q - 16 * ((F + K) % 256)) else ph q) → (∀ q, pts' q = if 320 * ((F + K) % 256) ≤ q ∧ q < 320 * ((F + K) % 256) + 320 then mth (q - 320 * ((F + K) % 256)) else pts q) → post (nI (if K = 256 then 256 else K + 1)) (nI (if K = 256 then (F + 1) % 256 else F)) ph' (upd ps ((F + K) % 256) (nI s)) pts') : w_X10_keep (nI K) (nI F) has ph ps pts mth (nI s) post := by
  by_cases e : K = 256
  · subst e
    refine nt rfl (nm (nm (nm (nm ?_))))
    have e0 : nI 256 - (1 : Int32) = nI 255 := by decide
    have e1 : nI F + 1 - (nI F + 1) / (256 : Int32) * (256 : Int32) = nI ((F + 1) % 256) := by rw [nI_1]; exact rem256 (by omega)
    rw [e0, e1, nI_add, rem256 (by omega), nI_1]
    have e2 : ((F + 1) % 256 + 255) % 256 = (F + 256) % 256 := by omega
    rw [e2]
    refine ⟨vp_in_nI (Nat.mod_lt _ (by omega)) (by omega), ?_⟩
    rw [nI_cl (n := (F + 256) % 256) (by omega)]
    refine keepH_spec (Nat.mod_lt _ (by omega)) (fun z g hg => keepT_spec (Nat.mod_lt _ (by omega)) (fun z' g' hg' => ?_))
    have := h g g' hg hg'
    rw [if_pos rfl, if_pos rfl] at this
    exact this
  · refine nf (fun q => e (nI_inj (by omega) (by omega) q)) (nm (nm ?_))
    rw [nI_add, rem256 (by omega), nI_1]
    refine ⟨vp_in_nI (Nat.mod_lt _ (by omega)) (by omega), ?_⟩
    rw [nI_cl (n := (F + K) % 256) (by omega)]
    refine keepH_spec (Nat.mod_lt _ (by omega)) (fun z g hg => keepT_spec (Nat.mod_lt _ (by omega)) (fun z' g' hg' => ?_))
    have := h g g' hg hg'
    rw [if_neg e, if_neg e] at this
    exact this
