/-! ===== free ===== -/
theorem one_lt {a : Int32} : (1 : Int32) < a ↔ ¬ a ≤ 1 := by
  rw [Int32.lt_iff_toInt_lt, Int32.le_iff_toInt_le]; omega
theorem bitv {x : Int32} {i : Nat} (hi : i < 31) : ((x >>> (nI i &&& 31)) &&& 1) = nI (if bt x i = true then 1 else 0) := by
  by_cases c : bt x i = true
  · rw [if_pos c]; exact (sshr_bit1 hi).mpr c
  · rw [if_neg c]
    have c' : bt x i = false := by
      cases e : bt x i
      · rfl
      · exact absurd e c
    exact (sshr_bit hi).mpr c'
theorem manyBits_spec {x : Int32} {post : Int32 → Prop} (k : post (nI (cb x 16))) : w_X10_manyBits x post := by
  refine pk_loop (fun f i (v : Int32) => w_X10_manyBits_L4 x post (fun v6 _ => post v6) f v (nI i)) (fun i v => v = nI (cb x i)) 16 0 0 (by omega) rfl ?_ ?_
  · intro f v hg
    rw [hg]
    exact tt (nI_le (b := 16) (Nat.le_refl 16) (by omega)) k
  · intro f i v hi hg ih
    refine ff (nI_ge (b := 16) hi (by omega)) (nm (nm ?_))
    rw [nI_1, bitv (by omega), hg, nI_add]
    exact ih _ rfl
theorem cb_clr {x : Int32} {p : Nat} (hp : p < 32) (hb : bt x p = true) : ∀ n, (p < n → cb (x &&& (((1 : Int32) <<< (nI p &&& 31)) ^^^ (-1))) n + 1 = cb x n) ∧ (n ≤ p → cb (x &&& (((1 : Int32) <<< (nI p &&& 31)) ^^^ (-1))) n = cb x n)
  | 0 => ⟨fun h => absurd h (by omega), fun _ => rfl⟩
  | n + 1 => by
    obtain ⟨h1, h2⟩ := cb_clr hp hb n
    show (p < n + 1 → cb _ n + (if bt (x &&& (((1 : Int32) <<< (nI p &&& 31)) ^^^ (-1))) n = true then 1 else 0) + 1 = cb x n + (if bt x n = true then 1 else 0)) ∧ (n + 1 ≤ p → cb _ n + (if bt (x &&& (((1 : Int32) <<< (nI p &&& 31)) ^^^ (-1))) n = true then 1 else 0) = cb x n + (if bt x n = true then 1 else 0))
    rw [bt_clr' hp]
    by_cases e : n = p
    · rw [if_pos e, e, hb, if_neg (by decide), if_pos rfl]
      refine ⟨fun _ => ?_, fun h => absurd h (by omega)⟩
      have := h2 (by omega)
      rw [e] at this
      omega
    · rw [if_neg e]
      refine ⟨fun h => ?_, fun h => ?_⟩
      · have := h1 (by omega); omega
      · have := h2 (by omega); omega
theorem cb_z {x : Int32} : ∀ n, cb x n = 0 ↔ ∀ i, i < n → bt x i = false
  | 0 => ⟨fun _ i hi => absurd hi (by omega), fun _ => rfl⟩
  | n + 1 => by
    have ih := cb_z (x := x) n
    show cb x n + (if bt x n = true then 1 else 0) = 0 ↔ _
    by_cases c : bt x n = true
    · rw [if_pos c]
      refine ⟨fun h => by omega, fun h => ?_⟩
      rw [h n (by omega)] at c; exact absurd c (by decide)
    · rw [if_neg c]
      refine ⟨fun h i hi => ?_, fun h => ?_⟩
      · by_cases e : i = n
        · rw [e]
          cases q : bt x n
          · rfl
          · exact absurd q c
        · exact ih.mp (by omega) i (by omega)
      · have := ih.mpr (fun i hi => h i (by omega)); omega
theorem alone_iff {x : Int32} {p : Nat} (hp : p < 16) (hx : BD 16 x) (hb : bt x p = true) : (x &&& (((1 : Int32) <<< (nI p &&& 31)) ^^^ (-1))) = 0 ↔ cb x 16 = 1 := by
  have h1 := (cb_clr (x := x) (p := p) (by omega) hb 16).1 hp
  constructor
  · intro h
    have : cb (x &&& (((1 : Int32) <<< (nI p &&& 31)) ^^^ (-1))) 16 = 0 := (cb_z 16).mpr (fun i _ => by rw [h, b_0])
    omega
  · intro h
    have h0 := (cb_z 16).mp (show cb (x &&& (((1 : Int32) <<< (nI p &&& 31)) ^^^ (-1))) 16 = 0 by omega)
    refine b_ext' (fun i => ?_)
    rw [b_0]
    by_cases hi : i < 16
    · exact h0 i hi
    · exact BD_sub hx (clr_sub (by omega)) i (by omega)
theorem or0 {x y : Int32} : (x ||| y) = 0 ↔ x = 0 ∧ y = 0 := by
  constructor
  · intro h
    have key : ∀ i, bt x i = false ∧ bt y i = false := fun i => by
      have := b_or x y i
      rw [h, b_0] at this
      cases e1 : bt x i <;> cases e2 : bt y i <;> rw [e1, e2] at this <;> first | exact ⟨rfl, rfl⟩ | exact absurd this (by decide)
    exact ⟨b_ext' (fun i => by rw [b_0]; exact (key i).1), b_ext' (fun i => by rw [b_0]; exact (key i).2)⟩
  · rintro ⟨rfl, rfl⟩
    rfl
/-- how many steps take from p -/
def cT (tk : Nat → Int32) (p : Nat) : Nat → Nat
  | 0 => 0
  | s + 1 => cT tk p s + if tk (16 * s + p) = 0 then 0 else 1
theorem cT_le (tk : Nat → Int32) (p : Nat) : ∀ s, cT tk p s ≤ s
  | 0 => Nat.le_refl 0
  | s + 1 => by
    have := cT_le tk p s
    show cT tk p s + (if tk (16 * s + p) = 0 then 0 else 1) ≤ s + 1
    split <;> omega
def ALN (tf tk : Nat → Int32) (p s : Nat) : Prop := ∀ t, t < s → ¬ tk (16 * t + p) = 0 → cb (tf t) 16 = 1
def FRE (S : Nat) (tf tk : Nat → Int32) (p : Nat) : Prop := ¬ cT tk p S = 0 ∧ (cT tk p S = 1 ∨ ALN tf tk p S)
theorem ALN_s {tf tk : Nat → Int32} {p s : Nat} (h : ALN tf tk p s) (k : ¬ tk (16 * s + p) = 0 → cb (tf s) 16 = 1) : ALN tf tk p (s + 1) := fun t ht q => by
  by_cases e : t = s
  · rw [e] at q ⊢; exact k q
  · exact h t (by omega) q
theorem freeAtX {S p : Nat} {tf tk : Nat → Int32} {post : Int32 → Prop} (hS : S ≤ 16) (hp : p < 16) (htf : ∀ s, s < 16 → ∀ i, i < 32 → bt (tf s) i = decide (i < 16 ∧ ¬ tk (16 * s + i) = 0)) (h1 : FRE S tf tk p → post 1) (h0 : ¬ FRE S tf tk p → post 0) : w_X5_isFreeAt (nI S) tf (nI p) post := by
  have B16 : ∀ s, s < 16 → BD 16 (tf s) := fun s hs i hi => by
    by_cases c : i < 32
    · rw [htf s hs i c]
      have : ¬ i < 16 := by omega
      simp [this]
    · exact b_big (by omega)
  refine pk_loop (fun f s (v : Int32) => w_X5_isFreeAt_L7 (nI p) (nI S) tf post (fun v10 v11 _ => (v10 = 1 → post 1) ∧ (¬ v10 = 1 → (v10 ≤ 1 → post 0) ∧ (¬ v10 ≤ 1 → (¬ v11 = 0 → post 0) ∧ (v11 = 0 → post 1)))) f (nI (cT tk p s)) v (nI s)) (fun s v => v = 0 ↔ ALN tf tk p s) S 0 0 (by omega) ⟨fun _ t ht => absurd ht (by omega), fun _ => rfl⟩ ?_ ?_
  · intro f v hg
    have hl := cT_le tk p S
    refine tt (nI_le (Nat.le_refl S) (by omega)) ?_
    by_cases c1 : cT tk p S = 1
    · rw [c1]; exact tt rfl (h1 ⟨by omega, Or.inl c1⟩)
    · refine ff (fun q => c1 (nI_inj (by omega) (by omega) (q : nI (cT tk p S) = nI 1))) ?_
      by_cases c0 : cT tk p S = 0
      · rw [c0]; exact tt (by decide) (h0 (fun q => q.1 c0))
      · refine ff (nI_ge (a := 1) (b := cT tk p S) (by omega) (by omega)) ?_
        by_cases c2 : v = 0
        · exact nt c2 (h1 ⟨c0, Or.inr (hg.mp c2)⟩)
        · exact nf c2 (h0 (fun q => c2 (hg.mpr (q.2.resolve_left c1))))
  · intro f s v hs hg ih
    have hin : vp_in (nI s) 16 := vp_in_nI (by omega) (by omega)
    refine ff (nI_ge hs (by omega)) ⟨hin, ?_⟩
    rw [nI_cl (n := s) (by omega)]
    have eb : bt (tf s) p = decide (p < 16 ∧ ¬ tk (16 * s + p) = 0) := htf s (by omega) p (by omega)
    by_cases c : tk (16 * s + p) = 0
    · have b0 : bt (tf s) p = false := by rw [eb]; simp [c]
      have ec : cT tk p (s + 1) = cT tk p s := by
        show cT tk p s + (if tk (16 * s + p) = 0 then 0 else 1) = _
        rw [if_pos c]; rfl
      refine tt ((bit0 (by omega)).mpr b0) (nm ?_)
      have e := ih v ⟨fun q => ALN_s (hg.mp q) (fun w => absurd c w), fun q => hg.mpr (fun t ht => q t (by omega))⟩
      rw [ec] at e
      rw [nI_1]; exact e
    · have b1 : bt (tf s) p = true := by rw [eb]; simp [c, hp]
      have ec : cT tk p (s + 1) = cT tk p s + 1 := by
        show cT tk p s + (if tk (16 * s + p) = 0 then 0 else 1) = _
        rw [if_neg c]
      refine ff (fun q => by rw [(bit0 (by omega)).mp q] at b1; exact absurd b1 (by decide)) (nm ⟨hin, nm (nm ?_)⟩)
      have al := alone_iff (x := tf s) hp (B16 s (by omega)) b1
      have e := ih (v ||| (tf s &&& (((1 : Int32) <<< (nI p &&& 31)) ^^^ (-1)))) ⟨fun q => ALN_s (hg.mp (or0.mp q).1) (fun _ => al.mp (or0.mp q).2), fun q => or0.mpr ⟨hg.mpr (fun t ht => q t (by omega)), al.mpr (q s (by omega) c)⟩⟩
      rw [ec] at e
      rw [nI_1, nI_1]; exact e
/-- simple: no colour, no kind of step but the first, no more than one mark at a time -/
def SIM (P S : Nat) (sk tk pt : Nat → Int32) : Prop := ∀ s, s < S → sk s = 0 ∧ ∀ p, p < P → tk (16 * s + p) ≤ 1 ∧ pt (16 * s + p) ≤ 1
theorem stepAbove0 {S : Nat} {sk : Nat → Int32} {post : Int32 → Prop} (hS : S ≤ 16) (hv : ∀ s, s < S → ∃ k : Nat, k ≤ 3 ∧ sk s = nI k) (h0 : (∀ s, s < S → sk s = 0) → post 0) (h1 : (¬ ∀ s, s < S → sk s = 0) → post 1) : w_X5_hasStepAbove (nI S) sk 0 post := by
  refine pk_loop (fun n i (_ : Unit) => w_X5_hasStepAbove_L2 0 (nI S) sk post (fun _ => post 0) n (nI i)) (fun i _ => ∀ s, s < i → sk s = 0) S 0 () (by omega) (fun s hs => absurd hs (by omega)) ?_ ?_
  · intro n _ hg
    exact tt (nI_le (Nat.le_refl S) (by omega)) (h0 hg)
  · intro n i _ hi hg ih
    refine ff (nI_ge hi (by omega)) ⟨vp_in_nI (by omega) (by omega), ?_⟩
    rw [nI_cl (n := i) (by omega)]
    obtain ⟨k, hk, ek⟩ := hv i hi
    by_cases c : sk i = 0
    · refine tt (by rw [c]; decide) (nm ?_)
      rw [nI_1]
      refine ih () (fun s hs => ?_)
      by_cases e : s = i
      · subst e; exact c
      · exact hg s (by omega)
    · exact ff (fun q => c (by rw [ek] at q ⊢; exact (nI_le0 (by omega)).mp q)) (h1 (fun w => c (w i hi)))
theorem isFreeX {P S : Nat} {pk sk tk pt nd cl wt gf tf pi hd : Nat → Int32} {co : Int32} {post : Int32 → Prop} (hN : cNet P S pk sk tk pt nd cl wt gf tf pi hd co) (h1 : (co = 0 ∧ SIM P S sk tk pt ∧ ∀ p, p < P → FRE S tf tk p) → post 1) (h0 : ¬ (co = 0 ∧ SIM P S sk tk pt ∧ ∀ p, p < P → FRE S tf tk p) → post 0) : w_X5_isFree co (nI P) (nI S) pt sk tk tf post := by
  have hP := hN.1.1
  have hS := hN.1.2
  have hz := hN.2.2.2.2.2.2.2.2.2.1
  by_cases cz : co = 0
  · refine ff (le_nlt ((co_le hN).mpr cz)) (stepAbove0 hS hN.2.2.1 (fun hsk => z0 ?_) (fun hsk => z1 (h0 (fun q => hsk (fun s hs => (q.2.1 s hs).1)))))
    have e16 : nI S * (16 : Int32) = nI (S * 16) := by rw [show (16 : Int32) = nI 16 from rfl, pk_mul]
    refine pk_loop (fun f i (_ : Unit) => w_X5_isFree_L19 co (nI P) (nI S) pt sk tk tf post _ f (nI i)) (fun i _ => ∀ j, j < i → tk j ≤ 1 ∧ pt j ≤ 1) (S * 16) 0 () (by omega) (fun j hj => absurd hj (by omega)) ?_ ?_
    · intro f _ hg
      unfold w_X5_isFree_L19 w_X5_isFree_L19b
      rw [e16]
      refine tt (nI_le (Nat.le_refl _) (by omega)) ?_
      have sim : SIM P S sk tk pt := fun s hs => ⟨hsk s hs, fun p hp => hg _ (by omega)⟩
      refine pk_loop (fun f i (_ : Unit) => w_X5_isFree_L60 co (nI P) (nI S) pt sk tk tf post (fun _ => post 1) f (nI i)) (fun i _ => ∀ p, p < i → FRE S tf tk p) P 0 () (by omega) (fun j hj => absurd hj (by omega)) ?_ ?_
      · intro f _ hg2
        exact tt (nI_le (Nat.le_refl P) (by omega)) (h1 ⟨cz, sim, hg2⟩)
      · intro f i _ hi hg2 ih
        refine ff (nI_ge hi (by omega)) (freeAtX hS (by omega) hN.2.2.2.2.2.2.2.2.2.2.2.1 (fun d => y1 (nm ?_)) (fun d => y0 (h0 (fun q => d (q.2.2 i hi)))))
        rw [nI_1]
        refine ih () (fun p hp => ?_)
        by_cases e : p = i
        · rw [e]; exact d
        · exact hg2 p (by omega)
    · intro f i _ hi hg ih
      have hin : vp_in (nI i) 256 := vp_in_nI (by omega) (by omega)
      unfold w_X5_isFree_L19 w_X5_isFree_L19b
      rw [e16]
      refine ff (nI_ge hi (by omega)) ⟨hin, ?_⟩
      rw [nI_cl (n := i) (by omega)]
      have ei : i = 16 * (i / 16) + i % 16 := (Nat.div_add_mod i 16).symm
      have bad : ¬ (tk i ≤ 1 ∧ pt i ≤ 1) → post 0 := fun q => h0 (fun w => q (by
        have hs : i / 16 < S := by omega
        by_cases c : i % 16 < P
        · have := (w.2.1 (i / 16) hs).2 (i % 16) c
          rw [← ei] at this; exact this
        · have := hz (i / 16) (i % 16) (by omega) (by omega) (Or.inr (by omega))
          rw [← ei] at this
          rw [this.1, this.2.1]; exact ⟨by decide, by decide⟩))
      by_cases c1 : tk i ≤ 1
      · refine ff (fun q => one_lt.mp q c1) ⟨hin, ?_⟩
        by_cases c2 : pt i ≤ 1
        · refine tt c2 (nm ?_)
          rw [nI_1]
          refine ih () (fun j hj => ?_)
          by_cases e : j = i
          · rw [e]; exact ⟨c1, c2⟩
          · exact hg j (by omega)
        · exact ff c2 (bad (fun w => c2 w.2))
      · exact tt (one_lt.mpr c1) (bad (fun w => c1 w.1))
  · exact tt (Int32.not_le.mp (fun q => cz ((co_le hN).mp q))) (h0 (fun q => cz q.1))
theorem simpleM {P S : Nat} {pk sk tk pt nd cl wt gf tf pi hd : Nat → Int32} {co : Int32} {post : Int32 → Prop} (hN : cNet P S pk sk tk pt nd cl wt gf tf pi hd co) (h1 : (co = 0 ∧ SIM P S sk tk pt) → post 1) (h0 : ¬ (co = 0 ∧ SIM P S sk tk pt) → post 0) : w_X10_isSimple (nI P) (nI S) pk pt sk tk post := by
  have hP := hN.1.1
  have hS := hN.1.2
  have go : ∀ r : Int32, ((r = 1 ∧ co = 0) ∨ (r = 0 ∧ ¬ co = 0)) → ∃ f : Nat, w_X10_isSimple_L15 (nI P) (nI S) pk pt sk tk post (fun v35 _ => v35 &&& 1 = v35 ∧ post v35) f r 0 := by
    intro r hr
    refine pk_loop (fun f i (v : Int32) => w_X10_isSimple_L15 (nI P) (nI S) pk pt sk tk post (fun v35 _ => v35 &&& 1 = v35 ∧ post v35) f v (nI i)) (fun i v => (v = 1 ∧ co = 0 ∧ ∀ s, s < i → sk s = 0 ∧ ∀ p, p < P → tk (16 * s + p) ≤ 1 ∧ pt (16 * s + p) ≤ 1) ∨ (v = 0 ∧ ¬ (co = 0 ∧ SIM P S sk tk pt))) S 0 r (by omega) ?_ ?_ ?_
    · rcases hr with ⟨a, b⟩ | ⟨a, b⟩
      · exact Or.inl ⟨a, b, fun s hs => absurd hs (by omega)⟩
      · exact Or.inr ⟨a, fun q => b q.1⟩
    · intro f v hg
      refine tt (nI_le (Nat.le_refl S) (by omega)) ?_
      rcases hg with ⟨rfl, a, b⟩ | ⟨rfl, b⟩
      · exact ⟨by decide, h1 ⟨a, b⟩⟩
      · exact ⟨by decide, h0 b⟩
    · intro f s v hs hg ih
      refine ff (nI_ge hs (by omega)) ?_
      -- the places of step s
      have row : ∀ v0 : Int32, ((v0 = 1 ∧ co = 0 ∧ (∀ t, t < s → sk t = 0 ∧ ∀ p, p < P → tk (16 * t + p) ≤ 1 ∧ pt (16 * t + p) ≤ 1) ∧ sk s = 0) ∨ (v0 = 0 ∧ ¬ (co = 0 ∧ SIM P S sk tk pt))) → ∃ g : Nat, w_X10_isSimple_L44 (nI s) (nI P) (nI S) pk pt sk tk post (fun v21 _ => ∀ x23 : Int32, x23 = nI s + (1 : Int32) → w_X10_isSimple_L15 (nI P) (nI S) pk pt sk tk post (fun v35 _ => v35 &&& 1 = v35 ∧ post v35) f v21 x23) g v0 0 := by
        intro v0 h0'
        refine pk_loop (fun g i (v : Int32) => w_X10_isSimple_L44 (nI s) (nI P) (nI S) pk pt sk tk post _ g v (nI i)) (fun i v => (v = 1 ∧ co = 0 ∧ (∀ t, t < s → sk t = 0 ∧ ∀ p, p < P → tk (16 * t + p) ≤ 1 ∧ pt (16 * t + p) ≤ 1) ∧ sk s = 0 ∧ ∀ p, p < i → tk (16 * s + p) ≤ 1 ∧ pt (16 * s + p) ≤ 1) ∨ (v = 0 ∧ ¬ (co = 0 ∧ SIM P S sk tk pt))) P 0 v0 (by omega) ?_ ?_ ?_
        · rcases h0' with ⟨a, b, c, d⟩ | q
          · exact Or.inl ⟨a, b, c, d, fun p hp => absurd hp (by omega)⟩
          · exact Or.inr q
        · intro g v hv
          refine tt (nI_le (Nat.le_refl P) (by omega)) (nm ?_)
          rw [nI_1]
          refine ih v ?_
          rcases hv with ⟨a, b, c, d, e⟩ | q
          · refine Or.inl ⟨a, b, fun t ht => ?_⟩
            by_cases et : t = s
            · rw [et]; exact ⟨d, e⟩
            · exact c t (by omega)
          · exact Or.inr q
        · intro g i v hi hv ih2
          have hin : vp_in (nI (16 * s + i)) 256 := vp_in_nI (by omega) (by omega)
          refine ff (nI_ge hi (by omega)) ?_
          rw [ixA, nI_cl (n := 16 * s + i) (by omega)]
          rcases hv with ⟨rfl, b, c, d, e⟩ | ⟨rfl, q⟩
          · refine z1 ⟨hin, ?_⟩
            by_cases c1 : tk (16 * s + i) ≤ 1
            · refine ff (fun q => one_lt.mp q c1) ⟨hin, ?_⟩
              by_cases c2 : pt (16 * s + i) ≤ 1
              · refine ff (fun q => one_lt.mp q c2) (nm ?_)
                rw [nI_1 i]
                refine ih2 _ (Or.inl ⟨rfl, b, c, d, fun p hp => ?_⟩)
                by_cases ep : p = i
                · rw [ep]; exact ⟨c1, c2⟩
                · exact e p (by omega)
              · refine tt (one_lt.mpr c2) (nm ?_)
                rw [nI_1 i]
                exact ih2 _ (Or.inr ⟨rfl, fun w => c2 ((w.2 s hs).2 i hi).2⟩)
            · refine tt (one_lt.mpr c1) (nm ?_)
              rw [nI_1 i]
              exact ih2 _ (Or.inr ⟨rfl, fun w => c1 ((w.2 s hs).2 i hi).1⟩)
          · refine z0 (nm ?_)
            rw [nI_1 i]
            exact ih2 _ (Or.inr ⟨rfl, q⟩)
      rcases hg with ⟨rfl, b, c⟩ | ⟨rfl, q⟩
      · refine z1 ⟨vp_in_nI (by omega) (by omega), ?_⟩
        rw [nI_cl (n := s) (by omega)]
        by_cases d : sk s = 0
        · exact nt d (row 1 (Or.inl ⟨rfl, b, c, d⟩))
        · exact nf d (row 0 (Or.inr ⟨rfl, fun w => d (w.2 s hs).1⟩))
      · exact z0 (row 0 (Or.inr ⟨rfl, q⟩))
  exact hasColN hN (fun c => y0 (go 1 (Or.inl ⟨rfl, c⟩))) (fun c => y1 (go 0 (Or.inr ⟨rfl, c⟩)))
theorem freeM {P S : Nat} {pk sk tk pt nd cl wt gf tf pi hd : Nat → Int32} {co : Int32} {post : Int32 → Prop} (hN : cNet P S pk sk tk pt nd cl wt gf tf pi hd co) (h1 : (co = 0 ∧ SIM P S sk tk pt ∧ ∀ p, p < P → FRE S tf tk p) → post 1) (h0 : ¬ (co = 0 ∧ SIM P S sk tk pt ∧ ∀ p, p < P → FRE S tf tk p) → post 0) : w_X10_free (nI P) (nI S) pk pt sk tk post := by
  have hP := hN.1.1
  have hS := hN.1.2
  have go : ∀ r : Int32, ((r = 1 ∧ co = 0 ∧ SIM P S sk tk pt) ∨ (r = 0 ∧ ¬ (co = 0 ∧ SIM P S sk tk pt))) → ∃ f : Nat, w_X10_free_L7 (nI P) (nI S) pk pt sk tk post (fun v37 _ => (v37 = 0 → post 0) ∧ (¬ v37 = 0 → post 1)) f r 0 := by
    intro r hr
    refine pk_loop (fun f i (v : Int32) => w_X10_free_L7 (nI P) (nI S) pk pt sk tk post (fun v37 _ => (v37 = 0 → post 0) ∧ (¬ v37 = 0 → post 1)) f v (nI i)) (fun i v => (v = 1 ∧ co = 0 ∧ SIM P S sk tk pt ∧ ∀ p, p < i → FRE S tf tk p) ∨ (v = 0 ∧ ¬ (co = 0 ∧ SIM P S sk tk pt ∧ ∀ p, p < P → FRE S tf tk p))) P 0 r (by omega) ?_ ?_ ?_
    · rcases hr with ⟨a, b, c⟩ | ⟨a, b⟩
      · exact Or.inl ⟨a, b, c, fun p hp => absurd hp (by omega)⟩
      · exact Or.inr ⟨a, fun q => b ⟨q.1, q.2.1⟩⟩
    · intro f v hg
      refine tt (nI_le (Nat.le_refl P) (by omega)) ?_
      rcases hg with ⟨rfl, a, b, c⟩ | ⟨rfl, b⟩
      · exact z1 (h1 ⟨a, b, c⟩)
      · exact z0 (h0 b)
    · intro f p v hp hg ih
      refine ff (nI_ge hp (by omega)) ?_
      refine pk_loop (fun g s (w : Int32) => w_X10_free_L23 v (nI p) (nI P) (nI S) pk pt sk tk post _ g (nI (cT tk p s)) w (nI s)) (fun s w => (w = 1 ∧ ALN tf tk p s) ∨ (w = 0 ∧ ¬ ALN tf tk p s)) S 0 1 (by omega) (Or.inl ⟨rfl, fun t ht => absurd ht (by omega)⟩) ?_ ?_
      · intro g w hw
        have hl := cT_le tk p S
        refine tt (nI_le (Nat.le_refl S) (by omega)) ?_
        rcases hg with ⟨rfl, b, c, d⟩ | ⟨rfl, q⟩
        · refine z1 ?_
          by_cases c0 : cT tk p S = 0
          · rw [c0]
            refine tt (by decide) (nm ?_)
            rw [nI_1]
            exact ih _ (Or.inr ⟨rfl, fun q => (q.2.2 p hp).1 c0⟩)
          · refine ff (nI_nle (by omega) (by omega)) ?_
            have yes : FRE S tf tk p → ∀ x31 : Int32, x31 = nI p + (1 : Int32) → w_X10_free_L7 (nI P) (nI S) pk pt sk tk post (fun v37 _ => (v37 = 0 → post 0) ∧ (¬ v37 = 0 → post 1)) f 1 x31 := fun hF => nm (by
              rw [nI_1]
              refine ih _ (Or.inl ⟨rfl, b, c, fun p' hp' => ?_⟩)
              by_cases e : p' = p
              · rw [e]; exact hF
              · exact d p' (by omega))
            by_cases c1 : cT tk p S = 1
            · rw [c1]; exact tt rfl (yes ⟨c0, Or.inl c1⟩)
            · refine ff (fun q => c1 (nI_inj (by omega) (by omega) (q : nI (cT tk p S) = nI 1))) ?_
              rcases hw with ⟨e, w2⟩ | ⟨e, w2⟩
              · rw [e]; exact z1 (yes ⟨c0, Or.inr w2⟩)
              · rw [e]
                refine z0 (nm ?_)
                rw [nI_1]
                exact ih _ (Or.inr ⟨rfl, fun q => (q.2.2 p hp).2.elim c1 w2⟩)
        · refine z0 (nm ?_)
          rw [nI_1]
          exact ih _ (Or.inr ⟨rfl, q⟩)
      · intro g s w hs hw ih2
        refine ff (nI_ge hs (by omega)) ?_
        rw [ixA, nI_cl (n := 16 * s + p) (by omega)]
        refine ⟨vp_in_nI (by omega) (by omega), ?_⟩
        obtain ⟨u, hu, eu⟩ := hN.2.2.2.1 (16 * s + p) (by omega)
        by_cases c : tk (16 * s + p) = 0
        · have ec : cT tk p (s + 1) = cT tk p s := by
            show cT tk p s + (if tk (16 * s + p) = 0 then 0 else 1) = _
            rw [if_pos c]; rfl
          refine tt (by rw [c]; decide) (nm ?_)
          have e := ih2 w (by
            rcases hw with ⟨e, q⟩ | ⟨e, q⟩
            · exact Or.inl ⟨e, ALN_s q (fun w => absurd c w)⟩
            · exact Or.inr ⟨e, fun r => q (fun t ht => r t (by omega))⟩)
          rw [ec] at e
          rw [nI_1 s]; exact e
        · have ec : cT tk p (s + 1) = cT tk p s + 1 := by
            show cT tk p s + (if tk (16 * s + p) = 0 then 0 else 1) = _
            rw [if_neg c]
          refine ff (fun q => c (by rw [eu] at q ⊢; exact (nI_le0 (by omega)).mp q)) (nm ?_)
          have stp : ∀ w' : Int32, ((w' = 1 ∧ ALN tf tk p (s + 1)) ∨ (w' = 0 ∧ ¬ ALN tf tk p (s + 1))) → ∀ x12 : Int32, x12 = nI s + (1 : Int32) → w_X10_free_L23 v (nI p) (nI P) (nI S) pk pt sk tk post (fun v20 v21 _ => (v = 0 → ∀ x25 : Int32, x25 = nI p + (1 : Int32) → w_X10_free_L7 (nI P) (nI S) pk pt sk tk post (fun v37 _ => (v37 = 0 → post 0) ∧ (¬ v37 = 0 → post 1)) f 0 x25) ∧ (¬ v = 0 → (v20 ≤ 0 → ∀ x28 : Int32, x28 = nI p + (1 : Int32) → w_X10_free_L7 (nI P) (nI S) pk pt sk tk post (fun v37 _ => (v37 = 0 → post 0) ∧ (¬ v37 = 0 → post 1)) f 0 x28) ∧ (¬ v20 ≤ 0 → (v20 = 1 → ∀ x31 : Int32, x31 = nI p + (1 : Int32) → w_X10_free_L7 (nI P) (nI S) pk pt sk tk post (fun v37 _ => (v37 = 0 → post 0) ∧ (¬ v37 = 0 → post 1)) f 1 x31) ∧ (¬ v20 = 1 → (v21 = 0 → ∀ x34 : Int32, x34 = nI p + (1 : Int32) → w_X10_free_L7 (nI P) (nI S) pk pt sk tk post (fun v37 _ => (v37 = 0 → post 0) ∧ (¬ v37 = 0 → post 1)) f 0 x34) ∧ (¬ v21 = 0 → ∀ x35 : Int32, x35 = nI p + (1 : Int32) → w_X10_free_L7 (nI P) (nI S) pk pt sk tk post (fun v37 _ => (v37 = 0 → post 0) ∧ (¬ v37 = 0 → post 1)) f 1 x35))))) g (nI (cT tk p s) + 1) w' x12 := fun w' hw' => nm (by
            have e := ih2 w' hw'
            rw [ec] at e
            rw [nI_1 s, nI_1 (cT tk p s)]; exact e)
          rcases hw with ⟨rfl, q⟩ | ⟨rfl, q⟩
          · refine z1 (bits1 hN hs (manyBits_spec ?_))
            have hcb := cb_le (tf s) 16
            by_cases d : cb (tf s) 16 = 1
            · rw [d]; exact nt rfl (stp 1 (Or.inl ⟨rfl, ALN_s q (fun _ => d)⟩))
            · exact nf (fun w => d (nI_inj (by omega) (by omega) (w : nI (cb (tf s) 16) = nI 1))) (stp 0 (Or.inr ⟨rfl, fun r => d (r s (by omega) c)⟩))
          · exact z0 (stp 0 (Or.inr ⟨rfl, fun r => q (fun t ht => r t (by omega))⟩))
  exact simpleM hN (fun c => go 1 (Or.inl ⟨rfl, c⟩)) (fun c => go 0 (Or.inr ⟨rfl, c⟩))
theorem p_52 : St_52 Inw := by
  intro XI XA XL MI MA ML hI
  obtain ⟨P, S, hq, hN, hW, hPa, hH, hg, hF, hT, hb1, hb2, hs⟩ := id hI
  obtain ⟨q9, m0, q10, m1, k5, k27, k29, k24, k16, k4, k31, k10⟩ := id hq
  unfold ls_52 w_X9_free
  rw [q9, m0, q10, m1, k29, k24, k27, k5]
  exact isFreeX hN (fun c => z1 (freeM hN (fun _ => ⟨rfl, hI⟩) (fun q => absurd c q))) (fun c => z0 (freeM hN (fun q => absurd q c) (fun _ => ⟨rfl, hI⟩)))
