/-! ===== the least sets ===== -/
def MN (S : Nat) (en ex : Nat → Int32) (x : Int32) : Prop := ¬ x = 0 ∧ KP S en ex x ∧ ∀ y, KP S en ex y → SB y x → ¬ y = 0 → y = x
theorem bt_clr' {x : Int32} {p : Nat} (hp : p < 32) (i : Nat) : bt (x &&& (((1 : Int32) <<< (nI p &&& 31)) ^^^ (-1))) i = if i = p then false else bt x i := by
  by_cases hi : i < 32
  · exact bt_clr hp hi
  · rw [b_big (by omega), if_neg (by omega), b_big (by omega)]
theorem clr_sub {x : Int32} {p : Nat} (hp : p < 32) : SB (x &&& (((1 : Int32) <<< (nI p &&& 31)) ^^^ (-1))) x := fun i q => by
  rw [bt_clr' hp] at q
  by_cases e : i = p
  · rw [if_pos e] at q; exact absurd q (by decide)
  · rw [if_neg e] at q; exact q
theorem sub_clr {x y : Int32} {p : Nat} (hp : p < 32) (h : SB y x) (hn : bt y p = false) : SB y (x &&& (((1 : Int32) <<< (nI p &&& 31)) ^^^ (-1))) := fun i q => by
  rw [bt_clr' hp]
  by_cases e : i = p
  · rw [e, hn] at q; exact absurd q (by decide)
  · rw [if_neg e]; exact h i q
theorem MN_of {P S : Nat} {en ex : Nat → Int32} {x : Int32} (hx : BD P x) (h0 : ¬ x = 0) (hk : KP S en ex x) (h : ∀ p, p < P → bt x p = true → ∀ y, KP S en ex y → SB y x → bt y p = false → y = 0) : MN S en ex x := by
  refine ⟨h0, hk, fun y hy hyx y0 => SB_anti hyx (fun i q => ?_)⟩
  cases e : bt y i
  · by_cases hi : i < P
    · exact absurd (h i hi q y hy hyx e) y0
    · rw [hx i (by omega)] at q; exact absurd q (by decide)
  · rfl
theorem MN_no {S : Nat} {en ex : Nat → Int32} {x g : Int32} {p : Nat} (hp : p < 32) (hb : bt x p = true) (hG : GR S en ex (x &&& (((1 : Int32) <<< (nI p &&& 31)) ^^^ (-1))) g) (h0 : ¬ g = 0) : ¬ MN S en ex x := fun hM => by
  have e := hM.2.2 g hG.1 (SB_trans hG.2.1 (clr_sub hp)) h0
  have := hG.2.1 p (by rw [e]; exact hb)
  rw [bt_clr' hp, if_pos rfl] at this
  exact absurd this (by decide)
theorem leastX {P S : Nat} {pi tf : Nat → Int32} {x w : Int32} {post : Int32 → Prop} (hP : P ≤ 16) (hS : S ≤ 16) (hx : BD P x) (h1 : MN S (ENT w pi tf) (EXT w pi tf) x → post 1) (h0 : ¬ MN S (ENT w pi tf) (EXT w pi tf) x → post 0) : w_X5_isLeast (nI P) (nI S) pi tf x w post := by
  by_cases c : x = 0
  · exact tt c (h0 (fun q => q.1 c))
  refine ff c (gX_spec hP hS hx (fun g hG => ?_))
  by_cases d : g = x
  · refine tt d ?_
    have hk : KP S (ENT w pi tf) (EXT w pi tf) x := by rw [← d]; exact hG.1
    refine pk_loop (fun f k (_ : Unit) => w_X5_isLeast_L18 x w (nI P) (nI S) pi tf post (fun _ => post 1) f (nI k)) (fun k _ => ∀ p, p < k → bt x p = true → ∀ y, KP S (ENT w pi tf) (EXT w pi tf) y → SB y x → bt y p = false → y = 0) P 0 () (by omega) (fun p hp => absurd hp (by omega)) ?_ ?_
    · intro f _ hg
      exact tt (nI_le (Nat.le_refl P) (by omega)) (h1 (MN_of hx c hk hg))
    · intro f k _ hkP hg ih
      refine ff (nI_ge hkP (by omega)) ?_
      by_cases b : bt x k = true
      · refine nt ((sshr_bit1 (by omega)).mpr b) (gX_spec hP hS (BD_sub hx (clr_sub (by omega))) (fun g2 hG2 => ?_))
        by_cases e : g2 = 0
        · refine tt e (nm ?_)
          rw [nI_1]
          refine ih () (fun p hp hb y hy hyx hyp => ?_)
          by_cases ep : p = k
          · rw [ep] at hyp
            have := hG2.2.2 y hy (sub_clr (by omega) hyx hyp)
            rw [e] at this
            exact SB_0' this
          · exact hg p (by omega) hb y hy hyx hyp
        · exact ff e (h0 (MN_no (by omega) b hG2 e))
      · refine nf (fun q => b ((sshr_bit1 (by omega)).mp q)) (nm ?_)
        rw [nI_1]
        refine ih () (fun p hp hb y hy hyx hyp => ?_)
        by_cases ep : p = k
        · rw [ep] at hb; exact absurd hb b
        · exact hg p (by omega) hb y hy hyx hyp
  · exact ff d (h0 (fun q => d (SB_anti hG.2.1 (hG.2.2 x q.2.1 (SB_refl x)))))
theorem leastM {P S : Nat} {en ex ans ask : Nat → Int32} {x : Int32} {post : Int32 → Prop} (hP : P ≤ 16) (hS : S ≤ 16) (hx : BD P x) (ha : ∀ s, s < S → ask s = en s ∧ ans s = ex s) (h1 : MN S en ex x → post 1) (h0 : ¬ MN S en ex x → post 0) : w_X10_isLeast (nI P) (nI S) ans ask x post := by
  have fin : ∀ r : Int32, ((r = 1 ∧ ¬ x = 0 ∧ KP S en ex x) ∨ (r = 0 ∧ ¬ MN S en ex x)) → ∃ f : Nat, w_X10_isLeast_L8 x (nI P) (nI S) ans ask post (fun v15 _ => v15 &&& 1 = v15 ∧ post v15) f r 0 := by
    intro r hr
    refine pk_loop (fun f k (v : Int32) => w_X10_isLeast_L8 x (nI P) (nI S) ans ask post (fun v15 _ => v15 &&& 1 = v15 ∧ post v15) f v (nI k)) (fun k v => (v = 1 ∧ ¬ x = 0 ∧ KP S en ex x ∧ ∀ p, p < k → bt x p = true → ∀ y, KP S en ex y → SB y x → bt y p = false → y = 0) ∨ (v = 0 ∧ ¬ MN S en ex x)) P 0 r (by omega) ?_ ?_ ?_
    · rcases hr with ⟨a, b, c⟩ | h
      · exact Or.inl ⟨a, b, c, fun p hp => absurd hp (by omega)⟩
      · exact Or.inr h
    · intro f v hg
      refine tt (nI_le (Nat.le_refl P) (by omega)) ?_
      rcases hg with ⟨rfl, a, b, c⟩ | ⟨rfl, h⟩
      · exact ⟨by decide, h1 (MN_of hx a b c)⟩
      · exact ⟨by decide, h0 h⟩
    · intro f k v hkP hg ih
      refine ff (nI_ge hkP (by omega)) ?_
      rcases hg with ⟨rfl, a, hk, hg⟩ | ⟨rfl, h⟩
      · refine z1 ?_
        by_cases b : bt x k = true
        · refine ff (fun q => by rw [(sshr_bit (by omega)).mp q] at b; exact absurd b (by decide)) (gM_spec (P := P) hS (BD_sub hx (clr_sub (by omega))) ha (fun g2 hG2 => ?_))
          by_cases e : g2 = 0
          · refine nt e (nm ?_)
            rw [nI_1]
            refine ih _ (Or.inl ⟨rfl, a, hk, fun p hp hb y hy hyx hyp => ?_⟩)
            by_cases ep : p = k
            · rw [ep] at hyp
              have := hG2.2.2 y hy (sub_clr (by omega) hyx hyp)
              rw [e] at this
              exact SB_0' this
            · exact hg p (by omega) hb y hy hyx hyp
          · refine nf e (nm ?_)
            rw [nI_1]
            exact ih _ (Or.inr ⟨rfl, MN_no (by omega) b hG2 e⟩)
        · have b' : bt x k = false := by
            cases e : bt x k
            · rfl
            · exact absurd e b
          refine tt ((sshr_bit (by omega)).mpr b') (nm ?_)
          rw [nI_1]
          refine ih _ (Or.inl ⟨rfl, a, hk, fun p hp hb y hy hyx hyp => ?_⟩)
          by_cases ep : p = k
          · rw [ep] at hb; exact absurd hb b
          · exact hg p (by omega) hb y hy hyx hyp
      · exact z0 ⟨by decide, h0 h⟩
  exact kept_spec hS ha (fun a b => fin 1 (Or.inl ⟨rfl, a, b⟩)) (fun q => fin 0 (Or.inr ⟨rfl, fun w => q ⟨w.1, w.2.1⟩⟩))
/-! order and bits -/
theorem ord_le {P : Nat} {x y : Int32} (hP : P ≤ 16) (hx : BD P x) (hy : BD P y) (h : SB x y) : x ≤ y := by
  obtain ⟨a, ha, rfl⟩ := BD_of hP hx
  obtain ⟨b, hb, rfl⟩ := BD_of hP hy
  have := pow16 hP
  refine nI_le ?_ (by omega)
  have e : a ||| b = b := by
    refine Nat.eq_of_testBit_eq (fun i => ?_)
    rw [Nat.testBit_or]
    by_cases hi : i < 32
    · have := h i
      rw [bt_nI hi, bt_nI hi] at this
      cases e1 : a.testBit i
      · rfl
      · rw [this e1]; rfl
    · have l : a < 2 ^ i := Nat.lt_of_lt_of_le ha (Nat.pow_le_pow_right (by omega) (by omega))
      rw [Nat.testBit_lt_two_pow l]; rfl
  calc a ≤ a ||| b := Nat.left_le_or
    _ = b := e
theorem lt_bits {a b i : Nat} (h1 : a.testBit i = false) (h2 : b.testBit i = true) (h : ∀ j, i < j → a.testBit j = b.testBit j) : a < b := by
  have e : a / 2 ^ (i + 1) = b / 2 ^ (i + 1) := Nat.eq_of_testBit_eq (fun j => by
    rw [Nat.testBit_div_two_pow, Nat.testBit_div_two_pow]
    exact h _ (by omega))
  rw [Nat.pow_succ, ← Nat.div_div_eq_div_mul, ← Nat.div_div_eq_div_mul] at e
  rw [Nat.testBit_eq_decide_div_mod_eq] at h1 h2
  have h1' : ¬ a / 2 ^ i % 2 = 1 := of_decide_eq_false h1
  have h2' : b / 2 ^ i % 2 = 1 := of_decide_eq_true h2
  rcases Nat.lt_or_ge a b with c | c
  · exact c
  · have := Nat.div_le_div_right (c := 2 ^ i) c
    omega
theorem ord_lt {P : Nat} {x y : Int32} {i : Nat} (hP : P ≤ 16) (hx : BD P x) (hy : BD P y) (h1 : bt x i = false) (h2 : bt y i = true) (h : ∀ j, i < j → bt x j = bt y j) : x < y := by
  obtain ⟨a, ha, rfl⟩ := BD_of hP hx
  obtain ⟨b, hb, rfl⟩ := BD_of hP hy
  have := pow16 hP
  have hi : i < 32 := by
    rcases Nat.lt_or_ge i 32 with c | c
    · exact c
    · rw [b_big c] at h2; exact absurd h2 (by decide)
  refine nI_lt ?_ (by omega)
  rw [bt_nI hi] at h1 h2
  refine lt_bits h1 h2 (fun j hj => ?_)
  by_cases hj2 : j < 32
  · have := h j hj
    rw [bt_nI hj2, bt_nI hj2] at this; exact this
  · have l1 : a < 2 ^ j := Nat.lt_of_lt_of_le ha (Nat.pow_le_pow_right (by omega) (by omega))
    have l2 : b < 2 ^ j := Nat.lt_of_lt_of_le hb (Nat.pow_le_pow_right (by omega) (by omega))
    rw [Nat.testBit_lt_two_pow l1, Nat.testBit_lt_two_pow l2]
def INs (ch : Int32) (u : Nat) (m : Int32) : Prop := ∀ i, u ≤ i → bt m i = bt ch i
def LBR (S : Nat) (en ex : Nat → Int32) (kn ch : Int32) (u : Nat) (r : Int32) : Prop :=
  (MN S en ex r ∧ kn < r ∧ INs ch u r ∧ ∀ m, MN S en ex m → kn < m → INs ch u m → r ≤ m) ∨ (r = 0 ∧ ∀ m, MN S en ex m → INs ch u m → ¬ kn < m)
theorem shlm : ∀ u, u < 17 → ((1 : Int32) <<< (nI u &&& 31)) - 1 = nI (2 ^ u - 1) := by decide
theorem bt_wide {ch : Int32} {u i : Nat} (hu : u ≤ 16) : bt (ch ||| (((1 : Int32) <<< (nI u &&& 31)) - 1)) i = (bt ch i || decide (i < u)) := by
  rw [b_or, shlm u (by omega)]
  by_cases hi : i < 32
  · rw [bt_nI hi, Nat.testBit_two_pow_sub_one]
  · rw [b_big (by omega), b_big (by omega)]
    have : ¬ i < u := by omega
    simp [this]
theorem le_lt {a b c : Int32} (h : a ≤ b) (k : c < a) : c < b := by
  rw [Int32.le_iff_toInt_le] at h
  rw [Int32.lt_iff_toInt_lt] at k ⊢
  omega
theorem lb_spec {P S : Nat} {pi tf : Nat → Int32} {w kn : Int32} (hP : P ≤ 16) (hS : S ≤ 16) : ∀ (d u : Nat) (ch : Int32) (post : Int32 → Prop), u + 2 ≤ d → u ≤ P → BD P ch → (∀ i, i < u → bt ch i = false) → (∀ r, LBR S (ENT w pi tf) (EXT w pi tf) kn ch u r → post r) → w_X9_leastBehind (nI P) (nI S) pi tf d w kn ch (nI u) post
  | 0, u, ch, post, hd, _, _, _, _ => by omega
  | d + 1, u, ch, post, hd, hu, hb, hlow, h => by
    have bW : ∀ i, bt (ch ||| (((1 : Int32) <<< (nI u &&& 31)) - 1)) i = (bt ch i || decide (i < u)) := fun i => bt_wide (by omega)
    have BW : BD P (ch ||| (((1 : Int32) <<< (nI u &&& 31)) - 1)) := fun i hi => by
      rw [bW, hb i hi]
      have : ¬ i < u := by omega
      simp [this]
    have inB : ∀ {m}, INs ch u m → BD P m := fun hm i hi => by rw [hm i (by omega)]; exact hb i hi
    have inW : ∀ {m}, INs ch u m → SB m (ch ||| (((1 : Int32) <<< (nI u &&& 31)) - 1)) := fun hm i q => by
      rw [bW]
      by_cases c : i < u
      · simp [c]
      · rw [← hm i (by omega), q]; rfl
    have inC : ∀ {m}, INs ch u m → SB ch m := fun hm i q => by
      by_cases c : i < u
      · rw [hlow i c] at q; exact absurd q (by decide)
      · rw [hm i (by omega)]; exact q
    refine ff (nI_pos (by omega)) (tt (nI_le (b := 16) (by omega) (by omega)) (nm ?_))
    by_cases c1 : kn < ch ||| (((1 : Int32) <<< (nI u &&& 31)) - 1)
    · refine tt c1 (gX_spec hP hS BW (fun g hG => ?_))
      by_cases c2 : g = 0
      · refine tt c2 (h 0 (Or.inr ⟨rfl, fun m hm hi => ?_⟩))
        have := hG.2.2 m hm.2.1 (inW hi)
        rw [c2] at this
        exact absurd (SB_0' this) hm.1
      refine ff c2 ?_
      by_cases c3 : (ch &&& (g ^^^ (-1))) = 0
      · refine tt c3 (gX_spec hP hS hb (fun g2 hG2 => ?_))
        by_cases c4 : g2 = 0
        · refine tt c4 ?_
          cases u with
          | zero =>
            refine absurd ?_ c2
            have e : ch ||| (((1 : Int32) <<< (nI 0 &&& 31)) - 1) = ch := b_ext' (fun i => by rw [bW]; simp)
            rw [e] at hG
            rw [← c4]; exact GR_uniq hG hG2
          | succ u =>
            rw [show nI (u + 1) - 1 = nI u from by rw [← nI_1, Int32.add_sub_cancel]]
            refine lb_spec hP hS d u ch _ (by omega) (by omega) hb (fun i hi => hlow i (by omega)) (fun r16 h16 => ?_)
            by_cases c5 : r16 = 0
            · refine nt c5 (nf (nI_ne0 (by omega) (by omega)) ?_)
              have h16' : ∀ m, MN S (ENT w pi tf) (EXT w pi tf) m → INs ch u m → ¬ kn < m := by
                rcases h16 with q | q
                · exact absurd c5 q.1.1
                · exact q.2
              have bC : ∀ i, bt (ch ||| ((1 : Int32) <<< (nI u &&& 31))) i = if i = u then true else bt ch i := fun i => by
                by_cases hi : i < 32
                · exact bt_set (by omega) hi
                · rw [b_big (by omega), if_neg (by omega), b_big (by omega)]
              have inU : ∀ {m}, INs (ch ||| ((1 : Int32) <<< (nI u &&& 31))) u m → INs ch (u + 1) m := fun hm i hi => by
                rw [hm i (by omega), bC, if_neg (by omega)]
              have inV : ∀ {m}, INs ch (u + 1) m → INs ch u m ∨ INs (ch ||| ((1 : Int32) <<< (nI u &&& 31))) u m := fun {m} hm => by
                cases e : bt m u
                · left
                  intro i hi
                  by_cases ei : i = u
                  · rw [ei, e, hlow u (by omega)]
                  · exact hm i (by omega)
                · right
                  intro i hi
                  rw [bC]
                  by_cases ei : i = u
                  · rw [if_pos ei, ei]; exact e
                  · rw [if_neg ei]; exact hm i (by omega)
              refine lb_spec hP hS d u _ _ (by omega) (by omega) (fun i hi => ?_) (fun i hi => ?_) (fun r21 h21 => h r21 ?_)
              · rw [bC, if_neg (by omega)]; exact hb i hi
              · rw [bC, if_neg (by omega)]; exact hlow i (by omega)
              · rcases h21 with ⟨a1, a2, a3, a4⟩ | ⟨a1, a2⟩
                · refine Or.inl ⟨a1, a2, inU a3, fun m hm hk hi => ?_⟩
                  rcases inV hi with q | q
                  · exact absurd hk (h16' m hm q)
                  · exact a4 m hm hk q
                · refine Or.inr ⟨a1, fun m hm hi => ?_⟩
                  rcases inV hi with q | q
                  · exact h16' m hm q
                  · exact a2 m hm q
            · refine nf c5 (h r16 ?_)
              rcases h16 with ⟨a1, a2, a3, a4⟩ | ⟨a1, -⟩
              · refine Or.inl ⟨a1, a2, fun i hi => a3 i (by omega), fun m hm hk hi => ?_⟩
                cases e : bt m u
                · exact a4 m hm hk (fun i hi2 => by
                    by_cases ei : i = u
                    · rw [ei, e, hlow u (by omega)]
                    · exact hi i (by omega))
                · have lt : r16 < m := ord_lt (i := u) hP (fun i hi2 => by rw [a3 i (by omega)]; exact hb i hi2) (inB hi) (by rw [a3 u (Nat.le_refl u)]; exact hlow u (by omega)) e (fun j hj => by rw [a3 j (by omega), hi j (by omega)])
                  exact Int32.not_lt.mp (fun q => i_irr (i_trans q lt))
              · exact absurd a1 c5
        · have only : ∀ m, MN S (ENT w pi tf) (EXT w pi tf) m → INs ch u m → m = ch := fun m hm hi => by
            have e := hm.2.2 g2 hG2.1 (SB_trans hG2.2.1 (inC hi)) c4
            refine SB_anti ?_ (inC hi)
            rw [← e]; exact hG2.2.1
          refine ff c4 ?_
          by_cases c5 : ch ≤ kn
          · refine tt c5 (h 0 (Or.inr ⟨rfl, fun m hm hi => ?_⟩))
            rw [only m hm hi]; exact le_nlt c5
          · refine ff c5 (leastX hP hS hb (fun hM => z1 (h ch (Or.inl ⟨hM, Int32.not_le.mp c5, fun _ _ => rfl, fun m hm hk hi => ?_⟩))) (fun hM => z0 (h 0 (Or.inr ⟨rfl, fun m hm hi => ?_⟩))))
            · rw [only m hm hi]; exact Int32.le_refl ch
            · rw [only m hm hi] at hm; exact absurd hm hM
      · refine ff c3 (h 0 (Or.inr ⟨rfl, fun m hm hi => ?_⟩))
        refine absurd (b_ext' (fun i => ?_)) c3
        rw [andn, b_0]
        cases e : bt ch i
        · rfl
        · have := hG.2.2 m hm.2.1 (inW hi) i (inC hi i e)
          rw [this]; rfl
    · refine ff c1 (h 0 (Or.inr ⟨rfl, fun m hm hi q => c1 (le_lt (ord_le hP (inB hi) BW (inW hi)) q)⟩))
