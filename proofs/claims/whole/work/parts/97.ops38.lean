/-! ===== bare ===== -/
theorem bit0 {x : Int32} {p : Nat} (hp : p < 32) : (x &&& ((1 : Int32) <<< (nI p &&& 31))) = 0 ↔ bt x p = false := by
  rw [and0]
  constructor
  · intro h
    cases e : bt x p
    · rfl
    · exact absurd (by rw [bt_one hp hp]; simp) (h p e)
  · intro h i h1 h2
    by_cases hi : i < 32
    · rw [bt_one hp hi] at h2
      have : i = p := of_decide_eq_true h2
      rw [this, h] at h1; exact absurd h1 (by decide)
    · rw [b_big (by omega)] at h1; exact absurd h1 (by decide)
def SOM (P : Nat) (has : Nat → Int32) (g : Int32) : Prop := ∃ p, p < P ∧ bt g p = true ∧ ¬ has p ≤ 0
theorem someX {many : Nat → Int32} {g : Int32} {post : Int32 → Prop} (h1 : SOM 16 many g → post 1) (h0 : ¬ SOM 16 many g → post 0) : w_X3_hasSomethingIn many g post := by
  refine pk_loop (fun f i (_ : Unit) => w_X3_hasSomethingIn_L2 g many post (fun _ => post 0) f (nI i)) (fun i _ => ¬ SOM i many g) 16 0 () (by omega) (fun ⟨p, hp, _⟩ => absurd hp (by omega)) ?_ ?_
  · intro f _ hg
    exact tt (nI_le (b := 16) (Nat.le_refl 16) (by omega)) (h0 hg)
  · intro f i _ hi hg ih
    refine ff (nI_ge (b := 16) hi (by omega)) ?_
    have nxt : ¬ (bt g i = true ∧ ¬ many i ≤ 0) → ¬ SOM (i + 1) many g := fun q ⟨p, hp, w⟩ => by
      by_cases e : p = i
      · rw [e] at w; exact q w
      · exact hg ⟨p, by omega, w⟩
    by_cases c : bt g i = true
    · refine ff (fun q => by rw [(bit0 (by omega)).mp q] at c; exact absurd c (by decide)) ⟨vp_in_nI (by omega) (by omega), ?_⟩
      rw [nI_cl (n := i) (by omega)]
      by_cases d : many i ≤ 0
      · refine tt d (nm ?_)
        rw [nI_1]; exact ih () (nxt (fun w => w.2 d))
      · exact ff d (h1 ⟨i, hi, c, d⟩)
    · have c' : bt g i = false := by
        cases e : bt g i
        · rfl
        · exact absurd e c
      refine tt ((bit0 (by omega)).mpr c') (nm ?_)
      rw [nI_1]; exact ih () (nxt (fun w => c w.1))
theorem someM {P : Nat} {has : Nat → Int32} {g : Int32} {post : Int32 → Prop} (hP : P ≤ 16) (h1 : SOM P has g → post 1) (h0 : ¬ SOM P has g → post 0) : w_X10_holds (nI P) has g post := by
  refine pk_loop (fun f i (v : Int32) => w_X10_holds_L4 g (nI P) has post (fun v14 _ => v14 &&& 1 = v14 ∧ post v14) f v (nI i)) (fun i v => (v = 1 ∧ SOM i has g) ∨ (v = 0 ∧ ¬ SOM i has g)) P 0 0 (by omega) (Or.inr ⟨rfl, fun ⟨p, hp, _⟩ => absurd hp (by omega)⟩) ?_ ?_
  · intro f v hg
    refine tt (nI_le (Nat.le_refl P) (by omega)) ?_
    rcases hg with ⟨rfl, q⟩ | ⟨rfl, q⟩
    · exact ⟨by decide, h1 q⟩
    · exact ⟨by decide, h0 q⟩
  · intro f i v hi hg ih
    refine ff (nI_ge hi (by omega)) ?_
    rcases hg with ⟨rfl, p, hp, q⟩ | ⟨rfl, q⟩
    · refine y1 (nm ?_)
      rw [nI_1]; exact ih _ (Or.inl ⟨rfl, p, by omega, q⟩)
    · have nxt : ¬ (bt g i = true ∧ ¬ has i ≤ 0) → ¬ SOM (i + 1) has g := fun q2 ⟨p, hp, w⟩ => by
        by_cases e : p = i
        · rw [e] at w; exact q2 w
        · exact q ⟨p, by omega, w⟩
      refine y0 ?_
      by_cases c : bt g i = true
      · refine nt ((sshr_bit1 (by omega)).mpr c) ⟨vp_in_nI (by omega) (by omega), ?_⟩
        rw [nI_cl (n := i) (by omega)]
        by_cases d : has i ≤ 0
        · refine tt d (nm ?_)
          rw [nI_1]; exact ih _ (Or.inr ⟨rfl, nxt (fun w => w.2 d)⟩)
        · refine ff d (nm ?_)
          rw [nI_1]; exact ih _ (Or.inl ⟨rfl, i, by omega, c, d⟩)
      · refine nf (fun w => c ((sshr_bit1 (by omega)).mp w)) (nm ?_)
        rw [nI_1]; exact ih _ (Or.inr ⟨rfl, nxt (fun w => c w.1)⟩)
/-- the greatest trap within m holds nothing -/
def NHo (P S : Nat) (en ex has : Nat → Int32) (m : Int32) : Prop := ∀ g, GR S en ex m g → ¬ SOM P has g
def BAr (P S : Nat) (e0 x0 e1 x1 has : Nat → Int32) (r : Int32) : Prop :=
  (MN S e0 x0 r ∧ BD P r ∧ NHo P S e1 x1 has r ∧ ∀ m, MN S e0 x0 m → BD P m → m < r → ¬ NHo P S e1 x1 has m) ∨ (r = 0 ∧ ∀ m, MN S e0 x0 m → BD P m → ¬ NHo P S e1 x1 has m)
theorem BAr_uniq {P S : Nat} {e0 x0 e1 x1 has : Nat → Int32} {r r' : Int32} (h : BAr P S e0 x0 e1 x1 has r) (h' : BAr P S e0 x0 e1 x1 has r') : r = r' := by
  rcases h with ⟨a1, a2, a3, a4⟩ | ⟨a1, a2⟩
  · rcases h' with ⟨b1, b2, b3, b4⟩ | ⟨b1, b2⟩
    · rcases lt_tot r r' with c | c | c
      · exact absurd a3 (b4 r a1 a2 c)
      · exact c
      · exact absurd b3 (a4 r' b1 b2 c)
    · exact absurd a3 (b2 r a1 a2)
  · rcases h' with ⟨b1, b2, b3, b4⟩ | ⟨b1, b2⟩
    · exact absurd b3 (a2 r' b1 b2)
    · rw [a1, b1]
theorem SOM_16 {P : Nat} {has many : Nat → Int32} {g : Int32} (hP : P ≤ 16) (hb : BD P g) (he : ∀ p, p < 16 → many p = has p) : SOM 16 many g ↔ SOM P has g := by
  constructor
  · rintro ⟨p, hp, q1, q2⟩
    have : p < P := by
      rcases Nat.lt_or_ge p P with c | c
      · exact c
      · rw [hb p c] at q1; exact absurd q1 (by decide)
    exact ⟨p, this, q1, by rw [← he p hp]; exact q2⟩
  · rintro ⟨p, hp, q1, q2⟩
    exact ⟨p, by omega, q1, by rw [he p (by omega)]; exact q2⟩
theorem bareX {P S : Nat} {pi tf many has : Nat → Int32} {post : Int32 → Prop} (hP : P ≤ 16) (hS : S ≤ 16) (he : ∀ p, p < 16 → many p = has p) (h : ∀ r, BAr P S (ENT 0 pi tf) (EXT 0 pi tf) (ENT 1 pi tf) (EXT 1 pi tf) has r → post r) : w_X9_bare (nI P) (nI S) pi tf many post := by
  have h16 := pow16 hP
  have key : ∀ d v t, 2 ^ P - v ≤ d → t ≤ v → v < 2 ^ P → (∀ m, MN S (ENT 0 pi tf) (EXT 0 pi tf) m → BD P m → m ≤ nI v → ¬ NHo P S (ENT 1 pi tf) (EXT 1 pi tf) has m) → ∃ f : Nat, w_X9_bare_L6 (nI P) (nI S) pi tf many post (fun _ _ => post 0) f (nI v) (nI (65536 - t)) := by
    intro d
    induction d with
    | zero => intro v t h1 _ h3 _; omega
    | succ d ih =>
      intro v t h1 h2 h3 h4
      have inP : ∀ {m}, BD P m → INs 0 P m := fun hm i hi => by rw [hm i hi, b_0]
      have one : ∀ (Q : Nat → Prop), (∀ r, LBR S (ENT 0 pi tf) (EXT 0 pi tf) (nI v) 0 P r → True) → True := fun _ _ => trivial
      -- what the next least drain is does not hang on what follows
      have run : ∀ (K : Int32 → Prop), (∀ r, LBR S (ENT 0 pi tf) (EXT 0 pi tf) (nI v) 0 P r → K r) → w_X9_leastBehind (nI P) (nI S) pi tf 18 0 (nI v) 0 (nI P) K := fun K hK => lb_spec hP hS 18 P 0 K (by omega) (Nat.le_refl P) (fun i _ => b_0 i) (fun i _ => b_0 i) hK
      have pos : ¬ nI (65536 - t) ≤ 0 := nI_nle (by omega) (by omega)
      -- the drain itself, by what there is
      by_cases ex : ∃ m, MN S (ENT 0 pi tf) (EXT 0 pi tf) m ∧ BD P m ∧ nI v < m
      · by_cases exb : ∃ r, LBR S (ENT 0 pi tf) (EXT 0 pi tf) (nI v) 0 P r
        · obtain ⟨r, hr⟩ := exb
          have uniq : ∀ r', LBR S (ENT 0 pi tf) (EXT 0 pi tf) (nI v) 0 P r' → r' = r := fun r' hr' => by
            obtain ⟨m, m1, m2, m3⟩ := ex
            rcases hr' with ⟨a1, a2, a3, a4⟩ | ⟨-, a2⟩
            · rcases hr with ⟨b1, b2, b3, b4⟩ | ⟨-, b2⟩
              · exact le_as (a4 r b1 b2 b3) (b4 r' a1 a2 a3)
              · exact absurd m3 (b2 m m1 (inP m2))
            · exact absurd m3 (a2 m m1 (inP m2))
          rcases id hr with ⟨a1, a2, a3, a4⟩ | ⟨-, a2⟩
          · have rB : BD P r := fun i hi => by rw [a3 i hi, b_0]
            obtain ⟨v', hv', er⟩ := BD_of hP rB
            have hvv : v < v' := by
              rcases Nat.lt_or_ge v v' with c | c
              · exact c
              · rw [er] at a2; exact absurd a2 (le_nlt (nI_le c (by omega)))
            have below : ∀ m, MN S (ENT 0 pi tf) (EXT 0 pi tf) m → BD P m → m < r → ¬ NHo P S (ENT 1 pi tf) (EXT 1 pi tf) has m := fun m m1 m2 m3 => by
              by_cases c : nI v < m
              · exact absurd m3 (le_nlt (a4 m m1 c (inP m2)))
              · exact h4 m m1 m2 (nlt_le' c)
            by_cases nh : NHo P S (ENT 1 pi tf) (EXT 1 pi tf) has r
            · refine ⟨1, ff pos (run _ (fun r' hr' => ?_))⟩
              rw [uniq r' hr']
              refine ff a1.1 (gX_spec hP hS rB (fun g hG => someX (fun q => absurd ((SOM_16 hP (BD_sub rB hG.2.1) he).mp q) (nh g hG)) (fun q => y0 (h r (Or.inl ⟨a1, rB, nh, below⟩)))))
            · obtain ⟨f, hf⟩ := ih v' (t + 1) (by omega) (by omega) hv' (fun m m1 m2 m3 => by
                rw [← er] at m3
                by_cases c : m = r
                · rw [c]; exact nh
                · refine below m m1 m2 ?_
                  rcases lt_tot m r with w | w | w
                  · exact w
                  · exact absurd w c
                  · exact absurd w (le_nlt m3))
              refine ⟨f + 1, ff pos (run _ (fun r' hr' => ?_))⟩
              rw [uniq r' hr']
              refine ff a1.1 (gX_spec hP hS rB (fun g hG => someX (fun q => y1 (nm ?_)) (fun q => absurd (fun g' hG' => ?_) nh)))
              · rw [sb_m1 (by omega), show 65536 - t - 1 = 65536 - (t + 1) by omega, er]
                exact hf
              · rw [GR_uniq hG' hG]
                exact fun w => q ((SOM_16 hP (BD_sub rB hG.2.1) he).mpr w)
          · obtain ⟨m, m1, m2, m3⟩ := ex
            exact absurd m3 (a2 m m1 (inP m2))
        · exact ⟨1, ff pos (run _ (fun r hr => absurd ⟨r, hr⟩ exb))⟩
      · refine ⟨1, ff pos (run _ (fun r hr => ?_))⟩
        rcases hr with ⟨a1, a2, a3, a4⟩ | ⟨a1, a2⟩
        · exact absurd ⟨r, a1, fun i hi => by rw [a3 i hi, b_0], a2⟩ ex
        · refine tt a1 (h r (Or.inr ⟨a1, fun m m1 m2 => h4 m m1 m2 (nlt_le' (a2 m m1 (inP m2)))⟩))
  refine key (2 ^ P) 0 0 (Nat.sub_le _ _) (Nat.le_refl 0) (Nat.two_pow_pos P) (fun m m1 m2 m3 => absurd ?_ m1.1)
  obtain ⟨v, hv, rfl⟩ := BD_of hP m2
  exact (nI_le0 (by omega)).mp m3
theorem bareM {P S : Nat} {pk sk tk pt nd cl wt gf tf pi hd : Nat → Int32} {co : Int32} {ans ask has : Nat → Int32} {post : Int32 → (Nat → Int32) → (Nat → Int32) → Prop} (hN : cNet P S pk sk tk pt nd cl wt gf tf pi hd co) (h : ∀ r a b, BAr P S (ENT 0 pi tf) (EXT 0 pi tf) (ENT 1 pi tf) (EXT 1 pi tf) has r → post r a b) : w_X10_bare (nI P) (nI S) ans ask has pt tk post := by
  have hP := hN.1.1
  have hS := hN.1.2
  have h16 := pow16 hP
  have e := shl1 P (by omega)
  refine pk_loop (σ := (Nat → Int32) × (Nat → Int32)) (fun f i g => w_X10_bare_L2 (nI P) (nI S) has pt tk post (fun _ s18 s19 => post 0 s18 s19) f (nI i) g.1 g.2) (fun i g => ∀ m, MN S (ENT 0 pi tf) (EXT 0 pi tf) m → BD P m → m < nI i → ¬ NHo P S (ENT 1 pi tf) (EXT 1 pi tf) has m) (2 ^ P) 1 (ans, ask) Nat.one_le_two_pow (fun m m1 m2 m3 => absurd ?_ m1.1) ?_ ?_
  · obtain ⟨v, hv, rfl⟩ := BD_of hP m2
    have : ¬ 1 ≤ v := fun w => absurd m3 (le_nlt (nI_le (a := 1) w (by omega)))
    rw [show v = 0 by omega]; rfl
  · intro f g hg
    unfold w_X10_bare_L2 w_X10_bare_L2b
    rw [e]
    refine tt (nI_le (Nat.le_refl _) (by omega)) (h 0 _ _ (Or.inr ⟨rfl, fun m m1 m2 => hg m m1 m2 ?_⟩))
    obtain ⟨v, hv, rfl⟩ := BD_of hP m2
    exact nI_lt hv (by omega)
  · intro f i g hi hg ih
    unfold w_X10_bare_L2 w_X10_bare_L2b
    rw [e]
    have nxt : (MN S (ENT 0 pi tf) (EXT 0 pi tf) (nI i) → ¬ NHo P S (ENT 1 pi tf) (EXT 1 pi tf) has (nI i)) → ∀ m, MN S (ENT 0 pi tf) (EXT 0 pi tf) m → BD P m → m < nI (i + 1) → ¬ NHo P S (ENT 1 pi tf) (EXT 1 pi tf) has m := fun q m m1 m2 m3 => by
      obtain ⟨v, hv, rfl⟩ := BD_of hP m2
      by_cases ev : v = i
      · rw [ev] at m1 ⊢; exact q m1
      · have : ¬ i + 1 ≤ v := fun w => absurd m3 (le_nlt (nI_le w (by omega)))
        exact hg _ m1 m2 (nI_lt (by omega) (by omega))
    refine ff (nI_ge hi (by omega)) (readSteps_spec hN (Or.inl rfl) (fun a1 b1 ha1 => leastM hP hS (BD_nI hi) ha1 (fun hM => z1 ?_) (fun hM => z0 (nm ?_))))
    · refine readSteps_spec hN (Or.inr rfl) (fun a2 b2 ha2 => gM_spec (P := P) hS (BD_nI hi) ha2 (fun g2 hG => someM hP (fun q => y1 (nm ?_)) (fun q => y0 (h _ _ _ (Or.inl ⟨hM, BD_nI hi, fun g' hG' => by rw [GR_uniq hG' hG]; exact q, hg⟩)))))
      rw [nI_1]
      exact ih (a2, b2) (nxt (fun _ w => w g2 hG q))
    · rw [nI_1]
      exact ih (a1, b1) (nxt (fun q => absurd q hM))
theorem p_53 : St_53 Inw := by
  intro XI XA XL MI MA ML hI
  obtain ⟨P, S, hq, hN, hW, hPa, hH, hg, hF, hT, hb1, hb2, hs⟩ := id hI
  obtain ⟨q9, m0, q10, m1, k5, k27, k29, k24, k16, k4, k31, k10⟩ := id hq
  unfold ls_53
  rw [q9, m0, q10, m1, k29, k24]
  exact bareX hN.1.1 hN.1.2 (fun p hp => (hW p hp).1) (fun r hr => bareM hN (fun r' a b hr' => ⟨BAr_uniq hr hr', P, S, hq, hN, hW, hPa, hH, hg, hF, hT, hb1, hb2, hs⟩))
