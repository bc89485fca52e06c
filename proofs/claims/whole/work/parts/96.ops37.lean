/-! ===== sets, in the order of their bits ===== -/
def LSt (P S : Nat) (en ex : Nat → Int32) (n : Nat) (f : Nat → Int32) (L : Int32) : Prop :=
  (∀ j, j < n → MN S en ex (f j) ∧ BD P (f j) ∧ f j ≤ L) ∧ (∀ i j, i < j → j < n → f i < f j) ∧ (∀ m, MN S en ex m → BD P m → m ≤ L → ∃ j, j < n ∧ m = f j)
def CP (P S : Nat) (en ex : Nat → Int32) (n : Nat) (f : Nat → Int32) : Prop := ∀ m, MN S en ex m → BD P m → ∃ j, j < n ∧ m = f j
theorem le_tr {a b c : Int32} (h : a ≤ b) (k : b ≤ c) : a ≤ c := by
  rw [Int32.le_iff_toInt_le] at h k ⊢; omega
theorem lt_le {a b : Int32} (h : a < b) : a ≤ b := by
  rw [Int32.lt_iff_toInt_lt] at h; rw [Int32.le_iff_toInt_le]; omega
theorem le_as {a b : Int32} (h : a ≤ b) (k : b ≤ a) : a = b := by
  rw [Int32.le_iff_toInt_le] at h k; exact Int32.toInt_inj.mp (by omega)
theorem lt_tot (a b : Int32) : a < b ∨ a = b ∨ b < a := by
  rw [Int32.lt_iff_toInt_lt, Int32.lt_iff_toInt_lt, ← Int32.toInt_inj]; omega
theorem le_lt' {a b c : Int32} (h : a ≤ b) (k : b < c) : a < c := by
  rw [Int32.le_iff_toInt_le] at h
  rw [Int32.lt_iff_toInt_lt] at k ⊢
  omega
theorem LSt_add {P S : Nat} {en ex : Nat → Int32} {n : Nat} {f : Nat → Int32} {L r : Int32} (h : LSt P S en ex n f L) (hr : MN S en ex r) (hb : BD P r) (hl : L < r) (hm : ∀ m, MN S en ex m → BD P m → L < m → m ≤ r → m = r) : LSt P S en ex (n + 1) (upd f n r) r := by
  obtain ⟨h1, h2, h3⟩ := h
  refine ⟨fun j hj => ?_, fun i j hij hj => ?_, fun m q1 q2 q3 => ?_⟩
  · by_cases e : j = n
    · rw [e, pk_us]; exact ⟨hr, hb, Int32.le_refl r⟩
    · rw [pk_un e]
      obtain ⟨a, b, c⟩ := h1 j (by omega)
      exact ⟨a, b, le_tr c (lt_le hl)⟩
  · rw [pk_un (show i ≠ n by omega)]
    by_cases e : j = n
    · rw [e, pk_us]; exact le_lt' (h1 i (by omega)).2.2 hl
    · rw [pk_un e]; exact h2 i j hij (by omega)
  · by_cases c : L < m
    · exact ⟨n, by omega, by rw [pk_us]; exact hm m q1 q2 c q3⟩
    · obtain ⟨j, hj, e⟩ := h3 m q1 q2 (nlt_le' c)
      exact ⟨j, by omega, by rw [pk_un (by omega)]; exact e⟩
theorem LSt_eq {P S : Nat} {en ex : Nat → Int32} {n n' : Nat} {f g : Nat → Int32} {L L' : Int32} (h : LSt P S en ex n f L) (h' : LSt P S en ex n' g L') : ∀ b j, j ≤ b → j < n → j < n' → f j = g j := by
  have half : ∀ {n n' : Nat} {f g : Nat → Int32} {L L' : Int32}, LSt P S en ex n f L → LSt P S en ex n' g L' → ∀ j, (∀ l, l < j → f l = g l) → j < n → j < n' → ¬ f j < g j := fun {n n' f g L L'} h h' j ih hj hj' q => by
    obtain ⟨l, hl, e⟩ := h'.2.2 (f j) (h.1 j hj).1 (h.1 j hj).2.1 (le_tr (lt_le q) (h'.1 j hj').2.2)
    rcases Nat.lt_trichotomy l j with c | c | c
    · have := h.2.1 l j c hj
      rw [ih l c, ← e] at this
      exact i_irr this
    · rw [c] at e; rw [e] at q; exact i_irr q
    · have := h'.2.1 j l c hl
      rw [← e] at this
      exact i_irr (i_trans q this)
  intro b
  induction b with
  | zero =>
    intro j hb hj hj'
    have ej : j = 0 := by omega
    subst ej
    rcases lt_tot (f 0) (g 0) with c | c | c
    · exact absurd c (half h h' 0 (fun l hl => absurd hl (by omega)) hj hj')
    · exact c
    · exact absurd c (half h' h 0 (fun l hl => absurd hl (by omega)) hj' hj)
  | succ b ih =>
    intro j hb hj hj'
    by_cases e : j ≤ b
    · exact ih j e hj hj'
    · rcases lt_tot (f j) (g j) with c | c | c
      · exact absurd c (half h h' j (fun l hl => ih l (by omega) (by omega) (by omega)) hj hj')
      · exact c
      · exact absurd c (half h' h j (fun l hl => (ih l (by omega) (by omega) (by omega)).symm) hj' hj)
theorem LSt_fin {P S A : Nat} {en ex : Nat → Int32} {n n' : Nat} {f g : Nat → Int32} {L L' : Int32} (h : LSt P S en ex n f L) (h' : LSt P S en ex n' g L') (c : n = A ∨ CP P S en ex n f) (c' : n' = A ∨ CP P S en ex n' g) (b : n ≤ A) (b' : n' ≤ A) : n = n' := by
  have half : ∀ {n n' : Nat} {f g : Nat → Int32} {L L' : Int32}, LSt P S en ex n f L → LSt P S en ex n' g L' → (n = A ∨ CP P S en ex n f) → n' ≤ A → ¬ n < n' := fun {n n' f g L L'} h h' c b' q => by
    rcases c with c | c
    · omega
    · obtain ⟨j, hj, e⟩ := c (g n) (h'.1 n q).1 (h'.1 n q).2.1
      have e2 := LSt_eq h h' j j (Nat.le_refl j) hj (by omega)
      have := h'.2.1 j n hj q
      rw [e, e2] at this
      exact i_irr this
  rcases Nat.lt_trichotomy n n' with q | q | q
  · exact absurd q (half h h' c b')
  · exact q
  · exact absurd q (half h' h c' b)
theorem LSt_0 {P S : Nat} {en ex : Nat → Int32} {f : Nat → Int32} (hP : P ≤ 16) : LSt P S en ex 0 f 0 := by
  refine ⟨fun j hj => absurd hj (by omega), fun i j _ hj => absurd hj (by omega), fun m q1 q2 q3 => absurd ?_ q1.1⟩
  obtain ⟨v, hv, rfl⟩ := BD_of hP q2
  have := pow16 hP
  exact (nI_le0 (by omega)).mp q3
theorem collectX {P S A : Nat} {pi tf sets : Nat → Int32} {w sz : Int32} {post : Int32 → (Nat → Int32) → Prop} (hP : P ≤ 16) (hS : S ≤ 16) (hA : A ≤ 500) (h : ∀ n f L, n ≤ A → LSt P S (ENT w pi tf) (EXT w pi tf) n f L → (n = A ∨ CP P S (ENT w pi tf) (EXT w pi tf) n f) → post (nI n) f) : w_X7_collect sz (nI P) (nI S) sets pi tf w (nI A) post := by
  refine pk_loop (σ := Int32 × (Nat → Int32)) (fun f k g => w_X7_collect_L11 w (nI A) (nI P) (nI S) pi tf post (fun _ _ s13 s14 => post s13 s14) f g.1 (nI k) (nI k) g.2) (fun k g => LSt P S (ENT w pi tf) (EXT w pi tf) k g.2 g.1) A 0 (0, sets) (by omega) (LSt_0 hP) ?_ ?_
  · intro f g hg
    exact tt (nI_le (Nat.le_refl A) (by omega)) (h A _ _ (Nat.le_refl A) hg (Or.inl rfl))
  · intro f k g hk hg ih
    refine ff (nI_ge hk (by omega)) (ff (nI_ge (b := 500) (by omega) (by omega)) ?_)
    refine lb_spec hP hS 18 P 0 _ (by omega) (Nat.le_refl P) (fun i _ => b_0 i) (fun i _ => b_0 i) (fun r hr => ?_)
    have inP : ∀ {m}, BD P m → INs 0 P m := fun hm i hi => by rw [hm i hi, b_0]
    rcases hr with ⟨a1, a2, a3, a4⟩ | ⟨a1, a2⟩
    · refine nf a1.1 ⟨vp_in_nI (by omega) (by omega), nm (nm ?_)⟩
      rw [nI_1, nI_cl (n := k) (by omega)]
      exact ih (r, upd g.2 k r) (LSt_add hg a1 (fun i hi => by rw [a3 i hi, b_0]) a2 (fun m q1 q2 q3 q4 => le_as q4 (a4 m q1 q3 (inP q2))))
    · exact nt a1 (h k _ _ (by omega) hg (Or.inr (fun m q1 q2 => hg.2.2 m q1 q2 (nlt_le' (a2 m q1 (inP q2))))))
theorem setsM {P S A : Nat} {en ex ans ask pt tk f0 : Nat → Int32} {post : Int32 → Int32 → (Nat → Int32) → (Nat → Int32) → (Nat → Int32) → Prop} {K : Int32 → Int32 → (Nat → Int32) → Prop} (hP : P ≤ 16) (hS : S ≤ 16) (hA : A ≤ 500) (ha : ∀ s, s < S → ask s = en s ∧ ans s = ex s) (h : ∀ z n f L, n ≤ A → LSt P S en ex n f L → (n = A ∨ CP P S en ex n f) → K z (nI n) f) : ∃ n : Nat, w_X10_sets_L35 (nI A) (nI P) (nI S) ans ask pt tk post K n 1 0 f0 := by
  have h16 := pow16 hP
  have h1 : 1 ≤ 2 ^ P := Nat.one_le_two_pow
  refine pk_loop (σ := Nat × (Nat → Int32)) (fun f i g => w_X10_sets_L35 (nI A) (nI P) (nI S) ans ask pt tk post K f (nI i) (nI g.1) g.2) (fun i g => 1 ≤ i ∧ g.1 ≤ A ∧ LSt P S en ex g.1 g.2 (nI (i - 1))) (2 ^ P) 1 (0, f0) h1 ⟨Nat.le_refl 1, by show 0 ≤ A; omega, LSt_0 hP⟩ ?_ ?_
  · intro f g hg
    have e := shl1 P (by omega)
    unfold w_X10_sets_L35 w_X10_sets_L35b
    rw [e]
    refine tt (nI_le (Nat.le_refl _) (by omega)) (h _ _ _ _ hg.2.1 hg.2.2 (Or.inr (fun m q1 q2 => hg.2.2.2.2 m q1 q2 ?_)))
    obtain ⟨v, hv, rfl⟩ := BD_of hP q2
    exact nI_le (by omega) (by omega)
  · intro f i g hi hg ih
    obtain ⟨g0, g1, g2⟩ := hg
    have e := shl1 P (by omega)
    unfold w_X10_sets_L35 w_X10_sets_L35b
    rw [e]
    refine ff (nI_ge hi (by omega)) ?_
    by_cases c : A ≤ g.1
    · exact tt (nI_le c (by omega)) (h _ _ _ _ g1 g2 (Or.inl (by omega)))
    · refine ff (nI_ge (by omega) (by omega)) (leastM hP hS (BD_nI hi) ha (fun hM => z1 ⟨vp_in_nI (by omega) (by omega), nm (nm ?_)⟩) (fun hM => z0 (nm ?_)))
      · rw [nI_1, nI_1, nI_cl (n := g.1) (by omega)]
        refine ih (g.1 + 1, upd g.2 g.1 (nI i)) ⟨by omega, by show g.1 + 1 ≤ A; omega, ?_⟩
        rw [show i + 1 - 1 = i by omega]
        refine LSt_add g2 hM (BD_nI hi) (nI_lt (by omega) (by omega)) (fun m q1 q2 q3 q4 => ?_)
        obtain ⟨v, hv, rfl⟩ := BD_of hP q2
        have h3 : ¬ nI v ≤ nI (i - 1) := Int32.not_le.mpr q3
        have : ¬ v ≤ i - 1 := fun w => h3 (nI_le w (by omega))
        have : ¬ i < v := fun w => le_nlt q4 (nI_lt w (by omega))
        rw [show v = i by omega]
      · rw [nI_1]
        refine ih g ⟨by omega, g1, ⟨fun j hj => ?_, g2.2.1, fun m q1 q2 q3 => ?_⟩⟩
        · obtain ⟨a, b, c⟩ := g2.1 j hj
          exact ⟨a, b, le_tr c (nI_le (by omega) (by omega))⟩
        · rw [show i + 1 - 1 = i by omega] at q3
          refine g2.2.2 m q1 q2 ?_
          obtain ⟨v, hv, rfl⟩ := BD_of hP q2
          have : ¬ i < v := fun w => le_nlt q3 (nI_lt w (by omega))
          by_cases ev : v = i
          · rw [ev] at q1; exact absurd q1 hM
          · exact nI_le (by omega) (by omega)
theorem p_48 : St_48 Inw := by
  intro XI XA XL MI MA ML hI a1 a2
  obtain ⟨P, S, hq, hN, hW, hPa, hH, hg, hF, hT, hb1, hb2, hs⟩ := id hI
  obtain ⟨q9, m0, q10, m1, k5, k27, k29, k24, k16, k4, k31, k10⟩ := id hq
  have hP16 : P ≤ 16 := hN.1.1
  have hS16 : S ≤ 16 := hN.1.2
  have hno : ∀ x y, Inw (va_up XI 23 (XI 23)) (va_up XA 38 (XA 38)) XL (va_up MI 14 (MI 14)) (va_up (va_up (va_up MA 1 x) 2 y) 9 (MA 9)) ML := fun x y => ⟨P, S, hq, hN, hW, hPa, hH, hg, hF, hT, hb1, hb2, hs⟩
  unfold ls_48 w_X9_sets w_X10_sets
  rw [q9, m0, q10, m1, k29, k24]
  by_cases c : a1 = 0 ∨ a1 = 1
  · refine kind_yes c (z1 ?_)
    by_cases c1 : a2 < 1
    · exact tt c1 (in01_yes c (z1 (isIn_lo c1 (y0 ⟨rfl, hno _ _⟩))))
    refine ff c1 ?_
    by_cases c2 : a2 ≤ 500
    · refine tt c2 ?_
      obtain ⟨A, hA, rfl⟩ : ∃ N : Nat, N ≤ 500 ∧ a2 = nI N := nI_of2 (M := 500) (by decide) (fun q => c1 (lt0_1 q)) c2
      refine collectX hP16 hS16 hA (fun n f L b1 b2 b3 => ?_)
      refine in01_yes c (z1 (isIn_in c1 (le_nlt c2) (y1 (readSteps_spec hN c (fun ans ask ha => setsM hP16 hS16 hA ha (fun z n' g L' d1 d2 d3 => ?_))))))
      have en := LSt_fin b2 d2 b3 d3 b1 d1
      rw [← en]
      exact ⟨rfl, P, S, hq, hN, hW, hPa, hH, hg, hF, hT, hb1, hb2, n, by omega, rfl, rfl, fun k hk => LSt_eq b2 d2 k k (Nat.le_refl k) hk (by omega)⟩
    · exact ff c2 (in01_yes c (z1 (isIn_hi (nlt_le c2) (y0 ⟨rfl, hno _ _⟩))))
  · exact kind_no c (z0 (in01_no c (z0 ⟨rfl, hno _ _⟩)))
