/-! ===== sets of places, as bits ===== -/
def BD (P : Nat) (x : Int32) : Prop := ∀ i, P ≤ i → bt x i = false
def SB (x y : Int32) : Prop := ∀ i, bt x i = true → bt y i = true
def KP (S : Nat) (en ex : Nat → Int32) (x : Int32) : Prop := ∀ s, s < S → ¬ (en s &&& x) = 0 → ¬ (ex s &&& x) = 0
def GR (S : Nat) (en ex : Nat → Int32) (x g : Int32) : Prop := KP S en ex g ∧ SB g x ∧ ∀ y, KP S en ex y → SB y x → SB y g
theorem b_ext' {x y : Int32} (h : ∀ i, bt x i = bt y i) : x = y := b_ext (fun i _ => h i)
theorem SB_refl (x : Int32) : SB x x := fun _ h => h
theorem SB_trans {x y z : Int32} (h : SB x y) (k : SB y z) : SB x z := fun i q => k i (h i q)
theorem SB_anti {x y : Int32} (h : SB x y) (k : SB y x) : x = y := b_ext' (fun i => by
  cases e : bt x i
  · cases e2 : bt y i
    · rfl
    · have := k i e2; rw [e] at this; exact absurd this (by decide)
  · exact (h i e).symm)
theorem GR_uniq {S : Nat} {en ex : Nat → Int32} {x g g' : Int32} (h : GR S en ex x g) (h' : GR S en ex x g') : g = g' := SB_anti (h'.2.2 g h.1 h.2.1) (h.2.2 g' h'.1 h'.2.1)
theorem and0 {x y : Int32} : (x &&& y) = 0 ↔ ∀ i, bt x i = true → ¬ bt y i = true := by
  constructor
  · intro h i h1 h2
    have := b_and x y i
    rw [h, b_0, h1, h2] at this
    exact absurd this (by decide)
  · intro h
    refine b_ext' (fun i => ?_)
    rw [b_and, b_0]
    cases e : bt x i
    · rfl
    · cases e2 : bt y i
      · rfl
      · exact absurd e2 (h i e)
theorem b_not (x : Int32) (i : Nat) (hi : i < 32) : bt (x ^^^ (-1)) i = !bt x i := by
  rw [b_xor, b_m1 i hi]; cases bt x i <;> rfl
theorem andn (x y : Int32) (i : Nat) : bt (x &&& (y ^^^ (-1))) i = (bt x i && !bt y i) := by
  by_cases hi : i < 32
  · rw [b_and, b_not y i hi]
  · rw [b_and, b_big (by omega), b_big (by omega)]; rfl
theorem BD_sub {P : Nat} {x y : Int32} (h : BD P y) (k : SB x y) : BD P x := fun i hi => by
  cases e : bt x i
  · rfl
  · have := k i e; rw [h i hi] at this; exact absurd this (by decide)
theorem SB_0 {x : Int32} : SB 0 x := fun i h => by rw [b_0] at h; exact absurd h (by decide)
theorem SB_0' {x : Int32} (h : SB x 0) : x = 0 := SB_anti h SB_0
theorem KP_0 {S : Nat} {en ex : Nat → Int32} : KP S en ex 0 := fun s _ q => absurd (and0.mpr (fun i _ => by rw [b_0]; decide)) q
/-- how many places -/
def cb (x : Int32) : Nat → Nat
  | 0 => 0
  | n + 1 => cb x n + if bt x n = true then 1 else 0
theorem cb_le (x : Int32) : ∀ n, cb x n ≤ n
  | 0 => Nat.le_refl 0
  | n + 1 => by
    have := cb_le x n
    show cb x n + (if bt x n = true then 1 else 0) ≤ n + 1
    split <;> omega
theorem cb_sub {x y : Int32} (h : SB x y) : ∀ n, cb x n ≤ cb y n ∧ (cb x n = cb y n → ∀ i, i < n → bt x i = bt y i)
  | 0 => ⟨Nat.le_refl 0, fun _ i hi => absurd hi (by omega)⟩
  | n + 1 => by
    obtain ⟨h1, h2⟩ := cb_sub h n
    show cb x n + (if bt x n = true then 1 else 0) ≤ cb y n + (if bt y n = true then 1 else 0) ∧ (cb x n + (if bt x n = true then 1 else 0) = cb y n + (if bt y n = true then 1 else 0) → _)
    by_cases c : bt x n = true
    · have d := h n c
      rw [if_pos c, if_pos d]
      refine ⟨by omega, fun e i hi => ?_⟩
      by_cases ei : i = n
      · rw [ei, c, d]
      · exact h2 (by omega) i (by omega)
    · rw [if_neg c]
      by_cases d : bt y n = true
      · rw [if_pos d]
        exact ⟨by omega, fun e => by omega⟩
      · rw [if_neg d]
        refine ⟨by omega, fun e i hi => ?_⟩
        by_cases ei : i = n
        · rw [ei]
          cases q : bt x n
          · cases q2 : bt y n
            · rfl
            · exact absurd q2 d
          · exact absurd q c
        · exact h2 (by omega) i (by omega)
theorem cb_lt {P : Nat} {x y : Int32} (h : SB x y) (hy : BD P y) (hne : ¬ x = y) : cb x P < cb y P := by
  obtain ⟨h1, h2⟩ := cb_sub h P
  rcases Nat.lt_or_ge (cb x P) (cb y P) with c | c
  · exact c
  · refine absurd (b_ext' (fun i => ?_)) hne
    by_cases hi : i < P
    · exact h2 (by omega) i hi
    · rw [hy i (by omega), BD_sub hy h i (by omega)]
/-- one round of the passes -/
def PSS (S : Nat) (en ex : Nat → Int32) (v v' : Int32) (s : Nat) : Prop := SB v' v ∧ (∀ y, KP S en ex y → SB y v → SB y v') ∧ (v' = v → ∀ t, t < s → ¬ (en t &&& v) = 0 → ¬ (ex t &&& v) = 0)
theorem PSS_0 {S : Nat} {en ex : Nat → Int32} {v : Int32} : PSS S en ex v v 0 := ⟨SB_refl v, fun _ _ h => h, fun _ t ht => absurd ht (by omega)⟩
theorem PSS_keep {S : Nat} {en ex : Nat → Int32} {v v' : Int32} {s : Nat} (h : PSS S en ex v v' s) (k : (en s &&& v') = 0 ∨ ¬ (ex s &&& v') = 0) : PSS S en ex v v' (s + 1) := by
  refine ⟨h.1, h.2.1, fun e t ht q => ?_⟩
  by_cases et : t = s
  · rw [et] at q ⊢
    rw [e] at k
    rcases k with k | k
    · exact absurd k q
    · exact k
  · exact h.2.2 e t (by omega) q
theorem PSS_cut {S : Nat} {en ex : Nat → Int32} {v v' : Int32} {s : Nat} (hs : s < S) (h : PSS S en ex v v' s) (k1 : ¬ (en s &&& v') = 0) (k2 : (ex s &&& v') = 0) : PSS S en ex v (v' &&& (en s ^^^ (-1))) (s + 1) := by
  have hsub : SB (v' &&& (en s ^^^ (-1))) v' := fun i q => by
    rw [andn] at q
    cases e : bt v' i
    · rw [e, Bool.false_and] at q; exact absurd q (by decide)
    · rfl
  refine ⟨SB_trans hsub h.1, fun y hy hyv => ?_, fun e => ?_⟩
  · have hyv' := h.2.1 y hy hyv
    have h2 : (ex s &&& y) = 0 := and0.mpr (fun i q1 q2 => and0.mp k2 i q1 (hyv' i q2))
    have h1 : (en s &&& y) = 0 := Decidable.not_not.mp (fun q => hy s hs q h2)
    intro i q
    rw [andn, hyv' i q]
    cases e : bt (en s) i
    · rfl
    · exact absurd q (and0.mp h1 i e)
  · have e2 : v' = v &&& (-1) ∨ True := Or.inr trivial
    have hvv : SB v v' := by rw [← e]; exact hsub
    have ev : v' = v := SB_anti h.1 hvv
    refine absurd (and0.mpr (fun i q1 q2 => ?_)) k1
    have q3 : bt (v' &&& (en s ^^^ (-1))) i = true := by rw [e, ← ev]; exact q2
    rw [andn, q1, q2] at q3
    exact absurd q3 (by decide)
theorem PSS_done {S : Nat} {en ex : Nat → Int32} {v : Int32} (h : PSS S en ex v v S) : KP S en ex v := fun s hs q => h.2.2 rfl s hs q
theorem and_c (x y : Int32) : x &&& y = y &&& x := by refine b_ext' (fun i => ?_); rw [b_and, b_and, Bool.and_comm]
theorem gX {P S : Nat} {pi tf : Nat → Int32} {x0 : Int32} {post K : Int32 → Prop} (hP : P ≤ 16) (hS : S ≤ 16) (hx : BD P x0) (h : ∀ g, GR S pi tf x0 g → post g) : ∃ n : Nat, w_X5_greatestWithin_L19 (nI P) (nI S) pi tf post (fun v _ => K v) n x0 0 := by
  have key : ∀ d v6 v, v6 + d = P + 1 → cb v P + v6 ≤ P → BD P v → SB v x0 → (∀ y, KP S pi tf y → SB y x0 → SB y v) → w_X5_greatestWithin_L19 (nI P) (nI S) pi tf post (fun v _ => K v) (d + 1) v (nI v6) := by
    intro d
    induction d with
    | zero => intro v6 v e1 e2 _ _ _; omega
    | succ d ih =>
      intro v6 v e1 e2 hb hsx hall
      refine ff (nI_nlt (by omega) (by omega)) ?_
      refine pk_loop (fun f s (w : Int32) => w_X5_greatestWithin_L35 (nI v6) v (nI P) (nI S) pi tf post _ f w (nI s)) (fun s w => PSS S pi tf v w s) S 0 v (by omega) PSS_0 ?_ ?_
      · intro f w hw
        refine tt (nI_le (Nat.le_refl S) (by omega)) ?_
        by_cases c : w = v
        · refine nt c (h w ?_)
          rw [c] at hw ⊢
          exact ⟨PSS_done hw, hsx, hall⟩
        · refine nf c (nm ?_)
          rw [nI_1]
          have := cb_lt hw.1 hb c
          exact ih (v6 + 1) w (by omega) (by omega) (BD_sub hb hw.1) (SB_trans hw.1 hsx) (fun y hy hyx => hw.2.1 y hy (hall y hy hyx))
      · intro f s w hs hw ihw
        have hin : vp_in (nI s) 16 := vp_in_nI (by omega) (by omega)
        refine ff (nI_ge hs (by omega)) ⟨hin, ?_⟩
        rw [nI_cl (n := s) (by omega)]
        by_cases c1 : (pi s &&& w) = 0
        · refine tt c1 (nm ?_)
          rw [nI_1 s]; exact ihw _ (PSS_keep hw (Or.inl c1))
        · refine ff c1 ⟨hin, ?_⟩
          by_cases c2 : (tf s &&& w) = 0
          · refine nt c2 ⟨hin, nm (nm ?_)⟩
            rw [nI_1 s]; exact ihw _ (PSS_cut hs hw c1 c2)
          · refine nf c2 (nm ?_)
            rw [nI_1 s]; exact ihw _ (PSS_keep hw (Or.inr c2))
  exact ⟨P + 1 + 1, key (P + 1) 0 x0 (by omega) (by have := cb_le x0 P; omega) hx (SB_refl x0) (fun _ _ q => q)⟩
theorem gX_3 {P S : Nat} {pi tf : Nat → Int32} {x0 : Int32} {post K : Int32 → Prop} (hP : P ≤ 16) (hS : S ≤ 16) (hx : BD P x0) (h : ∀ g, GR S tf pi x0 g → post g) : ∃ n : Nat, w_X5_greatestWithin_L19_3 (nI P) (nI S) pi tf post (fun v _ => K v) n x0 0 := by
  have key : ∀ d v6 v, v6 + d = P + 1 → cb v P + v6 ≤ P → BD P v → SB v x0 → (∀ y, KP S tf pi y → SB y x0 → SB y v) → w_X5_greatestWithin_L19_3 (nI P) (nI S) pi tf post (fun v _ => K v) (d + 1) v (nI v6) := by
    intro d
    induction d with
    | zero => intro v6 v e1 e2 _ _ _; omega
    | succ d ih =>
      intro v6 v e1 e2 hb hsx hall
      refine ff (nI_nlt (by omega) (by omega)) ?_
      refine pk_loop (fun f s (w : Int32) => w_X5_greatestWithin_L35_3 (nI v6) v (nI P) (nI S) pi tf post _ f w (nI s)) (fun s w => PSS S tf pi v w s) S 0 v (by omega) PSS_0 ?_ ?_
      · intro f w hw
        refine tt (nI_le (Nat.le_refl S) (by omega)) ?_
        by_cases c : w = v
        · refine nt c (h w ?_)
          rw [c] at hw ⊢
          exact ⟨PSS_done hw, hsx, hall⟩
        · refine nf c (nm ?_)
          rw [nI_1]
          have := cb_lt hw.1 hb c
          exact ih (v6 + 1) w (by omega) (by omega) (BD_sub hb hw.1) (SB_trans hw.1 hsx) (fun y hy hyx => hw.2.1 y hy (hall y hy hyx))
      · intro f s w hs hw ihw
        have hin : vp_in (nI s) 16 := vp_in_nI (by omega) (by omega)
        refine ff (nI_ge hs (by omega)) ⟨hin, ?_⟩
        rw [nI_cl (n := s) (by omega)]
        by_cases c1 : (tf s &&& w) = 0
        · refine tt c1 (nm ?_)
          rw [nI_1 s]; exact ihw _ (PSS_keep hw (Or.inl c1))
        · refine ff c1 ⟨hin, ?_⟩
          by_cases c2 : (pi s &&& w) = 0
          · refine nt c2 ⟨hin, nm (nm ?_)⟩
            rw [nI_1 s]; exact ihw _ (PSS_cut hs hw c1 c2)
          · refine nf c2 (nm ?_)
            rw [nI_1 s]; exact ihw _ (PSS_keep hw (Or.inr c2))
  exact ⟨P + 1 + 1, key (P + 1) 0 x0 (by omega) (by have := cb_le x0 P; omega) hx (SB_refl x0) (fun _ _ q => q)⟩
/-- what asks and what answers, by the kind of set -/
def ENT (w : Int32) (pi tf : Nat → Int32) : Nat → Int32 := if w = 0 then pi else tf
def EXT (w : Int32) (pi tf : Nat → Int32) : Nat → Int32 := if w = 0 then tf else pi
theorem gX_spec {P S : Nat} {pi tf : Nat → Int32} {x0 w : Int32} {post : Int32 → Prop} (hP : P ≤ 16) (hS : S ≤ 16) (hx : BD P x0) (h : ∀ g, GR S (ENT w pi tf) (EXT w pi tf) x0 g → post g) : w_X5_greatestWithin (nI P) (nI S) pi tf x0 w post := by
  unfold w_X5_greatestWithin w_X5_entries w_X5_exits
  by_cases c : w = 0
  · refine nt c (tt rfl (nt c (tt rfl ?_)))
    have e1 : ENT w pi tf = pi := if_pos c
    have e2 : EXT w pi tf = tf := if_pos c
    rw [e1, e2] at h
    exact gX hP hS hx h
  · refine nf c (ff (by decide) (nf c (ff (by decide) ?_)))
    have e1 : ENT w pi tf = tf := if_neg c
    have e2 : EXT w pi tf = pi := if_neg c
    rw [e1, e2] at h
    exact gX_3 hP hS hx h
theorem gM_spec {P S : Nat} {en ex ans ask : Nat → Int32} {x0 : Int32} {post : Int32 → Prop} (hS : S ≤ 16) (hx : BD P x0) (ha : ∀ s, s < S → ask s = en s ∧ ans s = ex s) (h : ∀ g, GR S en ex x0 g → post g) : w_X10_greatestIn (nI S) ans ask x0 post := by
  refine nm ?_
  have hne : ¬ x0 = x0 ^^^ (-1) := fun q => by
    have : bt x0 0 = bt (x0 ^^^ (-1)) 0 := congrArg (fun z => bt z 0) q
    rw [b_not x0 0 (by omega)] at this
    cases e : bt x0 0 <;> rw [e] at this <;> exact absurd this (by decide)
  have key : ∀ d v, cb v P ≤ d → BD P v → SB v x0 → (∀ y, KP S en ex y → SB y x0 → SB y v) → ∀ v3, ¬ v = v3 → w_X10_greatestIn_L6 (nI S) ans ask post (fun v15 _ => post v15) (d + 2) v v3 := by
    intro d
    induction d with
    | zero =>
      intro v e2 hb hsx hall v3 hv3
      refine ff hv3 ?_
      refine pk_loop (fun f s (w : Int32) => w_X10_greatestIn_L16 v (nI S) ans ask post _ f w (nI s)) (fun s w => PSS S en ex v w s) S 0 v (by omega) PSS_0 ?_ ?_
      · intro f w hw
        refine tt (nI_le (Nat.le_refl S) (by omega)) ?_
        by_cases c : w = v
        · rw [c] at hw ⊢
          exact tt rfl (h v ⟨PSS_done hw, hsx, hall⟩)
        · have := cb_lt hw.1 hb c
          omega
      · intro f s w hs hw ihw
        have hin : vp_in (nI s) 16 := vp_in_nI (by omega) (by omega)
        refine ff (nI_ge hs (by omega)) ⟨hin, ?_⟩
        rw [nI_cl (n := s) (by omega), (ha s hs).1, (ha s hs).2]
        by_cases c2 : (w &&& ex s) = 0
        · refine nt c2 ⟨hin, nm (nm ?_)⟩
          rw [nI_1 s]
          by_cases c1 : (en s &&& w) = 0
          · have e : w &&& (en s ^^^ (-1)) = w := b_ext' (fun i => by
              rw [andn]
              cases e : bt w i
              · rfl
              · cases e2 : bt (en s) i
                · rfl
                · exact absurd e (and0.mp c1 i e2))
            rw [e]
            exact ihw _ (PSS_keep hw (Or.inl c1))
          · exact ihw _ (PSS_cut hs hw c1 (by rw [and_c]; exact c2))
        · refine nf c2 (nm ?_)
          rw [nI_1 s]; exact ihw _ (PSS_keep hw (Or.inr (by rw [and_c]; exact c2)))
    | succ d ih =>
      intro v e2 hb hsx hall v3 hv3
      refine ff hv3 ?_
      refine pk_loop (fun f s (w : Int32) => w_X10_greatestIn_L16 v (nI S) ans ask post _ f w (nI s)) (fun s w => PSS S en ex v w s) S 0 v (by omega) PSS_0 ?_ ?_
      · intro f w hw
        refine tt (nI_le (Nat.le_refl S) (by omega)) ?_
        by_cases c : w = v
        · rw [c] at hw ⊢
          exact tt rfl (h v ⟨PSS_done hw, hsx, hall⟩)
        · have := cb_lt hw.1 hb c
          exact ih w (by omega) (BD_sub hb hw.1) (SB_trans hw.1 hsx) (fun y hy hyx => hw.2.1 y hy (hall y hy hyx)) v c
      · intro f s w hs hw ihw
        have hin : vp_in (nI s) 16 := vp_in_nI (by omega) (by omega)
        refine ff (nI_ge hs (by omega)) ⟨hin, ?_⟩
        rw [nI_cl (n := s) (by omega), (ha s hs).1, (ha s hs).2]
        by_cases c2 : (w &&& ex s) = 0
        · refine nt c2 ⟨hin, nm (nm ?_)⟩
          rw [nI_1 s]
          by_cases c1 : (en s &&& w) = 0
          · have e : w &&& (en s ^^^ (-1)) = w := b_ext' (fun i => by
              rw [andn]
              cases e : bt w i
              · rfl
              · cases e2 : bt (en s) i
                · rfl
                · exact absurd e (and0.mp c1 i e2))
            rw [e]
            exact ihw _ (PSS_keep hw (Or.inl c1))
          · exact ihw _ (PSS_cut hs hw c1 (by rw [and_c]; exact c2))
        · refine nf c2 (nm ?_)
          rw [nI_1 s]; exact ihw _ (PSS_keep hw (Or.inr (by rw [and_c]; exact c2)))
  exact ⟨cb x0 P + 2, key (cb x0 P) x0 (Nat.le_refl _) hx (SB_refl x0) (fun _ _ q => q) _ hne⟩
