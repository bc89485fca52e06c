/-! ===== nets without colour ===== -/
def PM (P : Nat) (tk nd cl h : Nat → Int32) (s : Nat) : Prop := ∀ p, p < P → LT tk nd cl h s p
def PU (P S : Nat) (sk tk nd cl h : Nat → Int32) : Prop := ∃ s, s < S ∧ sk s = 3 ∧ PM P tk nd cl h s
def PG (P S : Nat) (sk tk nd cl h : Nat → Int32) (s : Nat) : Prop := PM P tk nd cl h s ∧ (sk s = 3 ∨ ¬ PU P S sk tk nd cl h)
theorem PM_congr {P s : Nat} {tk nd cl h h' : Nat → Int32} (e : ∀ p, p < P → h p = h' p) : PM P tk nd cl h s ↔ PM P tk nd cl h' s := by
  constructor
  · intro q p hp; have := q p hp; unfold LT at this ⊢; rw [e p hp] at this; exact this
  · intro q p hp; have := q p hp; unfold LT at this ⊢; rw [← e p hp] at this; exact this
theorem PU_congr {P S : Nat} {sk tk nd cl h h' : Nat → Int32} (e : ∀ p, p < P → h p = h' p) : PU P S sk tk nd cl h ↔ PU P S sk tk nd cl h' :=
  ⟨fun ⟨s, a, b, c⟩ => ⟨s, a, b, (PM_congr e).mp c⟩, fun ⟨s, a, b, c⟩ => ⟨s, a, b, (PM_congr e).mpr c⟩⟩
theorem PG_congr {P S s : Nat} {sk tk nd cl h h' : Nat → Int32} (e : ∀ p, p < P → h p = h' p) : PG P S sk tk nd cl h s ↔ PG P S sk tk nd cl h' s := by
  unfold PG; rw [PM_congr e, PU_congr e]
theorem allowsP {P S s : Nat} {pk sk tk pt nd cl wt gf tf pi hd h : Nat → Int32} {things : Nat → Int64} {co : Int32} {post : Int32 → Prop} (hN : cNet P S pk sk tk pt nd cl wt gf tf pi hd co) (hc : co = 0) (hnn : ∀ p, p < P → ¬ h p < 0) (hs : s < 16) (h1 : PM P tk nd cl h s → post 1) (h0 : ¬ PM P tk nd cl h s → post 0) : w_X5_allows (nI P) cl hd nd pk tk wt h things (nI s) post := by
  have hz : ∀ p, p < P → pk p = 0 := fun p hp => (hN.2.1 p hp).resolve_right (co_0 hN hc p hp)
  have eA : ∀ p, p < P → (AL pk tk nd cl h (fun _ => 0) s p ↔ LT tk nd cl h s p) := fun p hp =>
    ⟨fun q => ⟨q.1, q.2.1, q.2.2.1⟩, fun q => ⟨q.1, q.2.1, q.2.2, Or.inl (hz p hp)⟩⟩
  exact allows_gen (cnt := fun _ => 0) hN.1.1 hs hN.2.2.2.1 hN.2.2.2.2.2.2.1 (hN.2.2.2.2.2.2.2.2.2.2.2.2.2.1 s hs) hnn (fun p hp => by omega) (fun p hp => Or.inl (hz p hp)) (fun c => h1 (fun p hp => (eA p hp).mp (c p hp))) (fun c => h0 (fun q => c (fun p hp => (eA p hp).mpr (q p hp))))
theorem urgesP {P S : Nat} {pk sk tk pt nd cl wt gf tf pi hd h : Nat → Int32} {things : Nat → Int64} {co : Int32} {post : Int32 → Prop} (hN : cNet P S pk sk tk pt nd cl wt gf tf pi hd co) (hc : co = 0) (hnn : ∀ p, p < P → ¬ h p < 0) (h1 : PU P S sk tk nd cl h → post 1) (h0 : ¬ PU P S sk tk nd cl h → post 0) : w_X5_urges (nI P) (nI S) cl hd nd pk sk tk wt h things post := by
  have hS16 := hN.1.2
  refine pk_loop (fun n i (_ : Unit) => w_X5_urges_L2 (nI P) (nI S) cl hd nd pk sk tk wt h things post (fun _ => post 0) n (nI i)) (fun i _ => ∀ s, s < i → ¬ (sk s = 3 ∧ PM P tk nd cl h s)) S 0 () (by omega) (fun s hs => absurd hs (by omega)) ?_ ?_
  · intro n _ hg
    exact tt (nI_le (Nat.le_refl S) (by omega)) (h0 (fun ⟨s, a, b, c⟩ => hg s a ⟨b, c⟩))
  · intro n i _ hi hg ih
    have nxt : ¬ (sk i = 3 ∧ PM P tk nd cl h i) → ∀ s, s < i + 1 → ¬ (sk s = 3 ∧ PM P tk nd cl h s) := fun ha s hs => by
      by_cases e : s = i
      · subst e; exact ha
      · exact hg s (by omega)
    refine ff (nI_ge hi (by omega)) ⟨vp_in_nI (by omega) (by omega), ?_⟩
    rw [nI_cl (n := i) (by omega)]
    by_cases c : sk i = 3
    · refine nt c (allowsP hN hc hnn (by omega) (fun d => z1 (h1 ⟨i, hi, c, d⟩)) (fun d => z0 (nm ?_)))
      rw [nI_1]; exact ih () (nxt (fun q => d q.2))
    · refine nf c (nm ?_)
      rw [nI_1]; exact ih () (nxt (fun q => c q.1))
theorem goesP {P S s : Nat} {pk sk tk pt nd cl wt gf tf pi hd h : Nat → Int32} {things : Nat → Int64} {co : Int32} {post : Int32 → Prop} (hN : cNet P S pk sk tk pt nd cl wt gf tf pi hd co) (hc : co = 0) (hnn : ∀ p, p < P → ¬ h p < 0) (hs : s < 16) (h1 : PG P S sk tk nd cl h s → post 1) (h0 : ¬ PG P S sk tk nd cl h s → post 0) : w_X5_goes (nI P) (nI S) cl hd nd pk sk tk wt h things (nI s) post := by
  refine allowsP hN hc hnn hs (fun c => z1 ⟨vp_in_nI hs (by omega), ?_⟩) (fun c => z0 (h0 (fun q => c q.1)))
  rw [nI_cl (n := s) (by omega)]
  by_cases d : sk s = 3
  · exact tt d (h1 ⟨c, Or.inl d⟩)
  · exact ff d (urgesP hN hc hnn (fun u => y1 (h0 (fun q => (q.2.resolve_left d) u))) (fun u => y0 (h1 ⟨c, Or.inr u⟩)))
theorem goesWhereP {P S s : Nat} {pk sk tk pt nd cl wt gf tf pi hd h : Nat → Int32} {things : Nat → Int64} {co u : Int32} {post : Int32 → Prop} (hN : cNet P S pk sk tk pt nd cl wt gf tf pi hd co) (hc : co = 0) (hnn : ∀ p, p < P → ¬ h p < 0) (hs : s < 16) (hu : (u = 1 ∧ PU P S sk tk nd cl h) ∨ (u = 0 ∧ ¬ PU P S sk tk nd cl h)) (h1 : PG P S sk tk nd cl h s → post 1) (h0 : ¬ PG P S sk tk nd cl h s → post 0) : w_X5_goesWhere (nI P) cl hd nd pk sk tk wt h things u (nI s) post := by
  rcases hu with ⟨rfl, hu⟩ | ⟨rfl, hu⟩
  · refine ff (by decide) ⟨vp_in_nI hs (by omega), ?_⟩
    rw [nI_cl (n := s) (by omega)]
    by_cases c : sk s = 3
    · exact nt c (allowsP hN hc hnn hs (fun d => z1 (h1 ⟨d, Or.inl c⟩)) (fun d => z0 (h0 (fun q => d q.1))))
    · exact nf c (h0 (fun q => (q.2.resolve_left c) hu))
  · exact tt rfl (allowsP hN hc hnn hs (fun d => z1 (h1 ⟨d, Or.inr hu⟩)) (fun d => z0 (h0 (fun q => d q.1))))
theorem goesMP {N P S s at_ : Nat} {cl nd sk tk row : Nat → Int32} {post : Int32 → Prop} (hP : P ≤ 16) (hS : S ≤ 16) (hs : s < 16) (hN : at_ + P ≤ N) (hN2 : N < 2 ^ 31) (h1 : PG P S sk tk nd cl (fun p => row (at_ + p)) s → post 1) (h0 : ¬ PG P S sk tk nd cl (fun p => row (at_ + p)) s → post 0) : w_X10_goes N (nI P) (nI S) cl nd sk tk row (nI s) (nI at_) post := by
  refine mayIn_spec hP hs hN hN2 (fun c => y1 ?_) (fun c => y0 (h0 (fun q => c q.1)))
  have fin : ∀ v : Int32, ((v = 1 ∧ PU P S sk tk nd cl (fun p => row (at_ + p))) ∨ (v = 0 ∧ ¬ PU P S sk tk nd cl (fun p => row (at_ + p)))) → (vp_in (nI s) 16 ∧ ((sk (nI s).toNatClampNeg) = (3 : Int32) → post 1) ∧ (¬ (sk (nI s).toNatClampNeg) = (3 : Int32) → (¬ v = 0 → post 0) ∧ (v = 0 → post 1))) := by
    intro v hv
    refine ⟨vp_in_nI hs (by omega), ?_⟩
    rw [nI_cl (n := s) (by omega)]
    by_cases d : sk s = 3
    · exact tt d (h1 ⟨c, Or.inl d⟩)
    · refine ff d ?_
      rcases hv with ⟨rfl, u⟩ | ⟨rfl, u⟩
      · exact y1 (h0 (fun q => (q.2.resolve_left d) u))
      · exact y0 (h1 ⟨c, Or.inr u⟩)
  refine pk_loop (fun n i (v : Int32) => w_X10_goes_L18 N (nI s) (nI at_) (nI P) (nI S) cl nd sk tk row post _ n v (nI i)) (fun i v => (v = 1 ∧ ∃ s, s < i ∧ sk s = 3 ∧ PM P tk nd cl (fun p => row (at_ + p)) s) ∨ (v = 0 ∧ ∀ s, s < i → ¬ (sk s = 3 ∧ PM P tk nd cl (fun p => row (at_ + p)) s))) S 0 0 (by omega) (Or.inr ⟨rfl, fun s hs => absurd hs (by omega)⟩) ?_ ?_
  · intro n v hg
    refine tt (nI_le (Nat.le_refl S) (by omega)) (fin v ?_)
    rcases hg with ⟨rfl, s, hs, q⟩ | ⟨rfl, q⟩
    · exact Or.inl ⟨rfl, s, hs, q⟩
    · exact Or.inr ⟨rfl, fun ⟨s, hs, r⟩ => q s hs r⟩
  · intro n i v hi hg ih
    refine ff (nI_ge hi (by omega)) ?_
    rcases hg with ⟨rfl, s, hs, q⟩ | ⟨rfl, q⟩
    · refine y1 (nm ?_)
      rw [nI_1]; exact ih _ (Or.inl ⟨rfl, s, by omega, q⟩)
    · refine y0 ⟨vp_in_nI (by omega) (by omega), ?_⟩
      have nxt : ¬ (sk i = 3 ∧ PM P tk nd cl (fun p => row (at_ + p)) i) → ∀ s, s < i + 1 → ¬ (sk s = 3 ∧ PM P tk nd cl (fun p => row (at_ + p)) s) := fun ha s hs => by
        by_cases e : s = i
        · subst e; exact ha
        · exact q s (by omega)
      rw [nI_cl (n := i) (by omega)]
      by_cases c : sk i = 3
      · refine nt c (mayIn_spec hP (by omega) hN hN2 (fun d => z1 (nm ?_)) (fun d => z0 (nm ?_)))
        · rw [nI_1]; exact ih _ (Or.inl ⟨rfl, i, by omega, c, d⟩)
        · rw [nI_1]; exact ih _ (Or.inr ⟨rfl, nxt (fun r => d r.2)⟩)
      · refine nf c (nm ?_)
        rw [nI_1]; exact ih _ (Or.inr ⟨rfl, nxt (fun r => c r.1)⟩)
/-- a number of marks after a step; without end stays -/
def mvd (h pt tk : Nat → Int32) (s p : Nat) : Int32 := if h p = 2147483647 then h p else h p + (pt (16 * s + p) - tk (16 * s + p))
theorem moveP {P S s : Nat} {pk sk tk pt nd cl wt gf tf pi hd h : Nat → Int32} {things : Nat → Int64} {co : Int32} {post : (Nat → Int32) → (Nat → Int64) → Prop} (hN : cNet P S pk sk tk pt nd cl wt gf tf pi hd co) (hc : co = 0) (hs : s < 16) (k : ∀ h', (∀ p, p < P → h' p = mvd h pt tk s p) → (∀ p, P ≤ p → h' p = h p) → post h' things) : w_X5_move (nI P) gf pk pt pi tk tf wt h things (nI s) post := by
  have hz : ∀ p, p < P → pk p = 0 := fun p hp => (hN.2.1 p hp).resolve_right (co_0 hN hc p hp)
  refine move_gen hN.1.1 hs (hN.2.2.2.2.2.2.2.2.2.2.2.1 s hs) (hN.2.2.2.2.2.2.2.2.2.2.2.2.1 s hs) (fun p hp => Or.inl (hz p hp)) (fun m' t' b1 b2 => ?_)
  have et : t' = things := t_same hN hc b1 b2
  rw [et]
  refine k m' (fun p hp => ?_) (fun p hp => (b2 p hp).1)
  unfold mvd
  rcases b1 p hp with ⟨k1, k2, k3, -⟩ | ⟨-, k3, -⟩ | ⟨k1, -⟩
  · rw [k3, k1, k2]
    split
    · rfl
    · show h p = h p + (0 - 0)
      rw [Int32.sub_self, Int32.add_zero]
  · exact k3
  · rw [hz p hp] at k1; exact absurd k1 (by decide)
theorem become_spec {a b : Nat → Int32} {post : (Nat → Int32) → Prop} (k : ∀ g, (∀ p, p < 16 → g p = b p) → post g) : w_X3_become a b post := by
  have c16 : (16 : Int32).toNatClampNeg = 16 := by decide
  have c0 : (0 : Int32).toNatClampNeg = 0 := by decide
  refine ⟨⟨by decide, by decide, by decide, by decide, by decide⟩, ?_⟩
  rw [c16, c0]
  exact k _ (fun p hp => by rw [pk_cpy_in (by omega) (by omega)]; congr 1; omega)
theorem hasCol_spec {P : Nat} {pk : Nat → Int32} {post : Int32 → Prop} (hP : P ≤ 16) (h0 : (∀ p, p < P → ¬ pk p = 1) → post 0) (h1 : (¬ ∀ p, p < P → ¬ pk p = 1) → post 1) : w_X10_hasColour (nI P) pk post := by
  refine pk_loop (fun n i (v : Int32) => w_X10_hasColour_L4 (nI P) pk post (fun v11 _ => v11 &&& 1 = v11 ∧ post v11) n v (nI i)) (fun i v => (v = 1 ∧ ∃ p, p < i ∧ pk p = 1) ∨ (v = 0 ∧ ∀ p, p < i → ¬ pk p = 1)) P 0 0 (by omega) (Or.inr ⟨rfl, fun s hs => absurd hs (by omega)⟩) ?_ ?_
  · intro n v hg
    refine tt (nI_le (Nat.le_refl P) (by omega)) ?_
    rcases hg with ⟨rfl, p, hp, q⟩ | ⟨rfl, q⟩
    · exact ⟨by decide, h1 (fun r => r p hp q)⟩
    · exact ⟨by decide, h0 q⟩
  · intro n i v hi hg ih
    refine ff (nI_ge hi (by omega)) ?_
    rcases hg with ⟨rfl, p, hp, q⟩ | ⟨rfl, q⟩
    · refine y1 (nm ?_)
      rw [nI_1]; exact ih _ (Or.inl ⟨rfl, p, by omega, q⟩)
    · refine y0 ⟨vp_in_nI (by omega) (by omega), ?_⟩
      rw [nI_cl (n := i) (by omega)]
      by_cases c : pk i = 1
      · refine nt c (nm ?_)
        rw [nI_1]; exact ih _ (Or.inl ⟨rfl, i, by omega, c⟩)
      · refine nf c (nm ?_)
        rw [nI_1]; exact ih _ (Or.inr ⟨rfl, fun p hp => by
          by_cases e : p = i
          · subst e; exact c
          · exact q p (by omega)⟩)
theorem cCount_pos {pk : Nat → Int32} : ∀ n, (∀ p, p < n → ¬ pk p = 1) → cCount pk n = 0
  | 0, _ => rfl
  | n + 1, h => by
    show cCount pk n + (if pk n = 1 then 1 else 0) = 0
    rw [cCount_pos n (fun p hp => h p (by omega)), if_neg (h n (by omega))]
/-- the reference's test of colour, by the class's count -/
theorem hasColN {P S : Nat} {pk sk tk pt nd cl wt gf tf pi hd : Nat → Int32} {co : Int32} {post : Int32 → Prop} (hN : cNet P S pk sk tk pt nd cl wt gf tf pi hd co) (h0 : co = 0 → post 0) (h1 : ¬ co = 0 → post 1) : w_X10_hasColour (nI P) pk post := by
  refine hasCol_spec hN.1.1 (fun q => h0 ?_) (fun q => h1 (fun c => q (co_0 hN c)))
  rw [hN.2.2.2.2.2.2.2.2.2.2.2.2.2.2, cCount_pos P q]; rfl
theorem checkC {P : Nat} {st wy : Int32} {cl colour has nd pt sk tk way f : Nat → Int32} {post : Int32 → (Nat → Int32) → Prop} {K : Int32 → (Nat → Int32) → Prop} (hP : P ≤ 16) (h : ∀ z g, (∀ p, p < P → g p = has p) → K z g) : ∃ n : Nat, w_X10_check_L12 (nI P) st wy cl colour has nd pt sk tk way post K n 0 f := by
  refine pk_loop (fun n i (g : Nat → Int32) => w_X10_check_L12 (nI P) st wy cl colour has nd pt sk tk way post K n (nI i) g) (fun i g => ∀ p, p < i → g p = has p) P 0 f (by omega) (fun p hp => absurd hp (by omega)) ?_ ?_
  · intro n g hg
    exact tt (nI_le (Nat.le_refl P) (by omega)) (h _ g hg)
  · intro n i g hi hg ih
    refine ff (nI_ge hi (by omega)) ⟨vp_in_nI (by omega) (by omega), vp_in_nI (by omega) (by omega), nm ?_⟩
    rw [nI_1, nI_cl (n := i) (by omega)]
    refine ih _ (fun p hp => ?_)
    by_cases e : p = i
    · rw [e, pk_us]
    · rw [pk_un e]; exact hg p (by omega)
theorem checkM {P s i0 : Nat} {st wy : Int32} {cl colour has nd pt sk tk way f : Nat → Int32} {post : Int32 → (Nat → Int32) → Prop} {K : Int32 → (Nat → Int32) → Prop} (hP : P ≤ 16) (hi0 : i0 < 8000) (hs : s < 16) (hw : way i0 = nI s) (h : ∀ z g, (∀ p, p < P → g p = f p + (pt (16 * s + p) - tk (16 * s + p))) → K z g) : ∃ n : Nat, w_X10_check_L68 (nI i0) (nI P) st wy cl colour has nd pt sk tk way post K n 0 f := by
  refine pk_loop (fun n i (g : Nat → Int32) => w_X10_check_L68 (nI i0) (nI P) st wy cl colour has nd pt sk tk way post K n (nI i) g) (fun i g => (∀ p, p < i → g p = f p + (pt (16 * s + p) - tk (16 * s + p))) ∧ ∀ p, i ≤ p → g p = f p) P 0 f (by omega) ⟨fun p hp => absurd hp (by omega), fun _ _ => rfl⟩ ?_ ?_
  · intro n g hg
    exact tt (nI_le (Nat.le_refl P) (by omega)) (h _ g hg.1)
  · intro n i g hi hg ih
    have hii : vp_in (nI i) 16 := vp_in_nI (by omega) (by omega)
    have hi8 : vp_in (nI i0) 8000 := vp_in_nI hi0 (by omega)
    have hx : vp_in (nI (16 * s + i)) 256 := vp_in_nI (by omega) (by omega)
    refine ff (nI_ge hi (by omega)) ⟨hii, hi8, ?_⟩
    rw [nI_cl (n := i0) (by omega), hw, ixA]
    refine ⟨hx, hi8, hx, hii, nm ?_⟩
    rw [nI_1, nI_cl (n := i) (by omega), nI_cl (n := 16 * s + i) (by omega)]
    refine ih _ ⟨fun p hp => ?_, fun p hp => ?_⟩
    · by_cases e : p = i
      · rw [e, pk_us, hg.2 i (Nat.le_refl i)]
      · rw [pk_un e]; exact hg.1 p (by omega)
    · rw [pk_un (by omega)]; exact hg.2 p (by omega)
theorem mvd_val {h pt tk : Nat → Int32} {s p v u n : Nat} (h1 : h p = nI v) (hv : v < 2147483647) (h2 : tk (16 * s + p) = nI n) (h3 : pt (16 * s + p) = nI u) (hn : n ≤ v) : mvd h pt tk s p = nI (v - n + u) ∧ mvd h pt tk s p = h p + (pt (16 * s + p) - tk (16 * s + p)) := by
  unfold mvd
  rw [if_neg (by
    rw [h1]; intro q
    have := (nI_eq (a := v) (b := 2147483647) (by omega) (by omega)).mp q
    omega)]
  exact ⟨by rw [h1, h2, h3, chg_val hn], rfl⟩
theorem pm_take {P s p v n : Nat} {tk nd cl h : Nat → Int32} (hM : PM P tk nd cl h s) (hp : p < P) (h1 : h p = nI v) (h2 : tk (16 * s + p) = nI n) (hn : n < 2 ^ 31) : n ≤ v := by
  have := (hM p hp).1
  rw [h1, h2] at this
  rcases Nat.lt_or_ge v n with q | q
  · exact absurd (nI_lt q hn) this
  · exact q
theorem p_25 : St_25 Inw := by
  intro XI XA XL MI MA ML hI
  obtain ⟨P, S, hq, hN, hW, hPa, hH, hg, hF, hT, hb1, hb2, hs⟩ := id hI
  obtain ⟨q9, m0, q10, m1, k5, k27, k29, k24, k16, k4, k31, k10⟩ := id hq
  have hP16 : P ≤ 16 := hN.1.1
  have hS16 : S ≤ 16 := hN.1.2
  have hI' : ∀ y2 y3 y5, Inw XI (va_up XA 39 y2) (va_up XL 7 y3) MI (va_up MA 19 y5) ML := fun y2 y3 y5 => ⟨P, S, hq, hN, hW, hPa, hH, hg, hF, hT, hb1, hb2, hs⟩
  obtain ⟨R, n, hR, hn, r1, r2, w1, w2, hrow, hway⟩ := hH
  unfold ls_25 w_X9_check w_X10_check
  rw [q9, m0, q10, m1, k5, k27, k29, k16, k4, k24, w1, w2]
  by_cases cz : ¬ XI 11 ≤ 0
  · exact ff cz (hasColN hN (fun q => absurd ((co_le hN).mpr q) cz) (fun _ => z1 ⟨rfl, hI' _ _ _⟩))
  have cz := Decidable.not_not.mp cz
  have cz' := (co_le hN).mp cz
  refine tt cz (become_spec (fun g hg' => ?_))
  have mstart : ∀ (r : Int32) (y2 : Nat → Int32) (y3 : Nat → Int64), (∀ f, (∀ p, p < P → f p = g p) → ∃ n1 : Nat, w_X10_check_L40 (nI P) (nI S) (nI n) (XA 9) (XA 13) (MA 11) (XA 12) (XA 14) (XA 16) (XA 17) (MA 32) (fun r4 y5 => r = r4 ∧ Inw XI (va_up XA 39 y2) (va_up XL 7 y3) MI (va_up MA 19 y5) ML) (fun v23 s24 => r = v23 ∧ Inw XI (va_up XA 39 y2) (va_up XL 7 y3) MI (va_up MA 19 s24) ML) n1 (0 : Int32) f) → w_X10_hasColour (nI P) (XA 13) (fun r1 =>
  (r1 = 0 →
    ∃ n1 : Nat, w_X10_check_L12 (nI P) (nI S) (nI n) (XA 9) (XA 13) (MA 11) (XA 12) (XA 14) (XA 16) (XA 17) (MA 32) (fun r4 y5 => r = r4 ∧ Inw XI (va_up XA 39 y2) (va_up XL 7 y3) MI (va_up MA 19 y5) ML) (fun v8 s9 =>
        ∃ n1 : Nat, w_X10_check_L40 (nI P) (nI S) (nI n) (XA 9) (XA 13) (MA 11) (XA 12) (XA 14) (XA 16) (XA 17) (MA 32) (fun r4 y5 => r = r4 ∧ Inw XI (va_up XA 39 y2) (va_up XL 7 y3) MI (va_up MA 19 y5) ML) (fun v23 s24 => r = v23 ∧ Inw XI (va_up XA 39 y2) (va_up XL 7 y3) MI (va_up MA 19 s24) ML) n1 (0 : Int32) s9) n1 (0 : Int32) (MA 19)) ∧
  (¬ r1 = 0 → r = (-2000000002 : Int32) ∧ Inw XI (va_up XA 39 y2) (va_up XL 7 y3) MI (va_up MA 19 (MA 19)) ML)) := by
    intro r y2 y3 hf
    refine hasColN hN (fun _ => z0 (checkC hP16 (fun z f hf' => hf f (fun p hp => ?_)))) (fun q => absurd cz' q)
    rw [hf' p hp, hg' p (by omega), (hW p (by omega)).1]
  refine pk_loop (σ := (Nat → Int32) × (Nat → Int64)) (fun k i x => w_X9_check_L26 (nI n) (XI 11) (nI P) (nI S) (XA 8) (XA 9) (XA 10) (XA 11) (XA 12) (XA 13) (XA 14) (XA 15) (XA 16) (XA 17) (XA 18) (XA 19) (XA 20) _ _ k (nI i) x.1 x.2)
    (fun i x => (∀ p, p < P → ∃ v : Nat, x.1 p = nI v ∧ v ≤ 1000000000 + 9 * i) ∧ ∀ n' post K, (∀ f, (∀ p, p < P → f p = x.1 p) → w_X10_check_L40 (nI P) (nI S) (nI n) (XA 9) (XA 13) (MA 11) (XA 12) (XA 14) (XA 16) (XA 17) (MA 32) post K n' (nI i) f) → ∀ f, (∀ p, p < P → f p = g p) → ∃ n1, w_X10_check_L40 (nI P) (nI S) (nI n) (XA 9) (XA 13) (MA 11) (XA 12) (XA 14) (XA 16) (XA 17) (MA 32) post K n1 0 f)
    n 0 (g, XL 7) (by omega) ⟨fun p hp => ?_, fun n' post K hh f hf => ⟨n', hh f hf⟩⟩ ?_ ?_
  · obtain ⟨e, v, ev, bv, -⟩ := hW p (by omega)
    exact ⟨v, (hg' p (by omega)).trans (e.trans ev), by omega⟩
  · intro k x hx
    refine tt (nI_le (Nat.le_refl n) (by omega)) (mstart _ _ _ (fun f hf => hx.2 1 _ _ (fun f hf => ?_) f hf))
    exact tt (nI_le (Nat.le_refl n) (by omega)) ⟨rfl, hI' _ _ _⟩
  · intro k i x hi hx ih
    obtain ⟨hv, hx⟩ := hx
    obtain ⟨ew, s, hs', es⟩ := hway i hi
    have hin : vp_in (nI i) 8000 := vp_in_nI (by omega) (by omega)
    have hnn : ∀ p, p < P → ¬ x.1 p < 0 := fun p hp => by
      obtain ⟨v, ev, bv⟩ := hv p hp
      rw [ev]; exact nI_pos (by omega)
    refine ff (nI_ge hi (by omega)) ⟨hin, ?_⟩
    rw [nI_cl (n := i) (by omega), es]
    refine goesP hN cz' hnn (by omega) (fun d => y1 ⟨hin, moveP hN cz' (by omega) (fun h' b1 b2 => nm ?_)⟩) (fun d => y0 ?_)
    · rw [nI_1]
      have mv1 : ∀ p, p < P → h' p = x.1 p + (XA 14 (16 * s + p) - XA 17 (16 * s + p)) ∧ ∃ v : Nat, h' p = nI v ∧ v ≤ 1000000000 + 9 * (i + 1) := fun p hp => by
        obtain ⟨v, ev, bv⟩ := hv p hp
        obtain ⟨a, ha, ea⟩ := hN.2.2.2.1 (16 * s + p) (by omega)
        obtain ⟨u, hu, eu⟩ := hN.2.2.2.2.1 (16 * s + p) (by omega)
        have hav : a ≤ v := pm_take d.1 hp ev ea (by omega)
        obtain ⟨m1, m2⟩ := mvd_val ev (by omega) ea eu hav
        exact ⟨(b1 p hp).trans m2, _, (b1 p hp).trans m1, by omega⟩
      refine ih (h', x.2) ⟨fun p hp => (mv1 p hp).2, fun n' post K hK => hx (n' + 1) post K (fun f hf => ?_)⟩
      refine ff (nI_ge hi (by omega)) ⟨hin, ?_⟩
      rw [nI_cl (n := i) (by omega), ← ew, es]
      refine goesMP (at_ := 0) hP16 hS16 (by omega) (by omega) (by omega) (fun _ => z1 ?_) (fun q => absurd ((PG_congr (fun p hp => by show f (0 + p) = _; rw [Nat.zero_add]; exact hf p hp)).mpr d) q)
      refine checkM hP16 (by omega) (by omega) (ew.symm.trans es) (fun z f' hf' => nm ?_)
      rw [nI_1]
      exact hK f' (fun p hp => by rw [hf' p hp, hf p hp]; exact ((mv1 p hp).1).symm)
    · refine mstart _ _ _ (fun f hf => hx 1 _ _ (fun f hf => ?_) f hf)
      refine ff (nI_ge hi (by omega)) ⟨hin, ?_⟩
      rw [nI_cl (n := i) (by omega), ← ew, es]
      exact goesMP (at_ := 0) hP16 hS16 (by omega) (by omega) (by omega) (fun q => absurd ((PG_congr (fun p hp => by show f (0 + p) = _; rw [Nat.zero_add]; exact hf p hp)).mp q) d) (fun _ => z0 ⟨rfl, hI' _ _ _⟩)
