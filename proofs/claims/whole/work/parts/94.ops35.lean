/-! ===== isSet, greatest ===== -/
theorem bt_nI {v i : Nat} (hi : i < 32) : bt (nI v) i = v.testBit i := by
  unfold bt
  show (BitVec.ofNat 32 v).getLsbD i = _
  rw [BitVec.getLsbD_ofNat]
  simp [hi]
theorem BD_nI {P v : Nat} (h : v < 2 ^ P) : BD P (nI v) := fun i hi => by
  by_cases c : i < 32
  · rw [bt_nI c]
    exact Nat.testBit_lt_two_pow (Nat.lt_of_lt_of_le h (Nat.pow_le_pow_right (by omega) hi))
  · exact b_big (by omega)
theorem BD_of {P : Nat} {x : Int32} (hP : P ≤ 16) (h : BD P x) : ∃ v : Nat, v < 2 ^ P ∧ x = nI v := by
  refine ⟨x.toBitVec.toNat, ?_, ?_⟩
  · refine Nat.lt_pow_two_of_testBit _ (fun i hi => ?_)
    rw [BitVec.testBit_toNat]
    exact h i hi
  · refine b_ext (fun i hi => ?_)
    rw [bt_nI hi, BitVec.testBit_toNat]; rfl
theorem pow16 {P : Nat} (h : P ≤ 16) : 2 ^ P ≤ 65536 := Nat.pow_le_pow_right (n := 2) (by omega) h
theorem shl1 : ∀ P, P < 17 → (1 : Int32) <<< (nI P &&& 31) = nI (2 ^ P) := by decide
theorem bitsOf_spec {P s : Nat} {w : Int32} {pt tk row : Nat → Int32} {m : Int32} {post : Int32 → Prop} (hP : P ≤ 16) (hs : s < 16) (hr : row = if w = 0 then pt else tk) (hv : ∀ i, i < 256 → ∃ v : Nat, v ≤ 9 ∧ row i = nI v) (hz : ∀ p, P ≤ p → p < 16 → row (16 * s + p) = 0) (hm : ∀ i, i < 32 → bt m i = decide (i < 16 ∧ ¬ row (16 * s + i) = 0)) (k : post m) : w_X10_bitsOf (nI P) pt tk (nI s) w post := by
  refine pk_loop (fun f i (v : Int32) => w_X10_bitsOf_L5 (nI s) w (nI P) pt tk post (fun v20 _ => post v20) f v (nI i)) (fun i v => ∀ j, j < 32 → bt v j = decide (j < i ∧ ¬ row (16 * s + j) = 0)) P 0 0 (by omega) (fun j hj => by rw [b_0]; simp) ?_ ?_
  · intro f v hg
    refine tt (nI_le (Nat.le_refl P) (by omega)) ?_
    have e : v = m := b_ext (fun i hi => by
      rw [hg i hi, hm i hi]
      by_cases c : i < P
      · simp [c, show i < 16 by omega]
      · by_cases c2 : i < 16
        · simp [c, c2, hz i (by omega) c2]
        · simp [c, c2])
    rw [e]; exact k
  · intro f i v hi hg ih
    have hin : vp_in (nI (16 * s + i)) 256 := vp_in_nI (by omega) (by omega)
    obtain ⟨u, hu, eu⟩ := hv (16 * s + i) (by omega)
    refine ff (nI_ge hi (by omega)) ?_
    rw [ixA, nI_cl (n := 16 * s + i) (by omega)]
    have both : (row (16 * s + i) ≤ 0 → ∀ x8 : Int32, x8 = (v ||| (0 : Int32)) → ∀ x9 : Int32, x9 = nI i + (1 : Int32) → w_X10_bitsOf_L5 (nI s) w (nI P) pt tk post (fun v20 _ => post v20) f x8 x9) ∧ (¬ row (16 * s + i) ≤ 0 → ∀ x10 : Int32, x10 = (v ||| ((1 : Int32) <<< (nI i &&& 31))) → ∀ x11 : Int32, x11 = nI i + (1 : Int32) → w_X10_bitsOf_L5 (nI s) w (nI P) pt tk post (fun v20 _ => post v20) f x10 x11) := by
      by_cases c : row (16 * s + i) = 0
      · refine tt (by rw [c]; decide) (nm (nm ?_))
        rw [nI_1]
        refine ih _ (fun j hj => ?_)
        rw [b_or, b_0, Bool.or_false, hg j hj]
        by_cases e : j = i
        · rw [e]; simp [c]
        · congr 1
          exact propext ⟨fun q => ⟨by omega, q.2⟩, fun q => ⟨by omega, q.2⟩⟩
      · refine ff (fun q => c (by rw [eu] at q ⊢; exact (nI_le0 (by omega)).mp q)) (nm (nm ?_))
        rw [nI_1]
        refine ih _ (fun j hj => ?_)
        rw [bt_set (by omega) hj]
        by_cases e : j = i
        · rw [if_pos e, e]; simp [c]
        · rw [if_neg e, hg j hj]
          congr 1
          exact propext ⟨fun q => ⟨by omega, q.2⟩, fun q => ⟨by omega, q.2⟩⟩
    by_cases c : w = 0
    · rw [if_pos c] at hr
      rw [hr] at both
      exact tt c ⟨hin, nm both⟩
    · rw [if_neg c] at hr
      rw [hr] at both
      exact ff c ⟨hin, nm both⟩
section SETS
variable {P S : Nat} {pk sk tk pt nd cl wt gf tf pi hd : Nat → Int32} {co : Int32}
theorem bits0 (hN : cNet P S pk sk tk pt nd cl wt gf tf pi hd co) {s : Nat} {post : Int32 → Prop} (hs : s < S) (k : post (pi s)) : w_X10_bitsOf (nI P) pt tk (nI s) 0 post :=
  bitsOf_spec (row := pt) hN.1.1 (by have := hN.1.2; omega) rfl hN.2.2.2.2.1 (fun p h1 h2 => (hN.2.2.2.2.2.2.2.2.2.1 s p (by have := hN.1.2; omega) h2 (Or.inr h1)).2.1) (hN.2.2.2.2.2.2.2.2.2.2.2.2.1 s (by have := hN.1.2; omega)) k
theorem bits1 (hN : cNet P S pk sk tk pt nd cl wt gf tf pi hd co) {s : Nat} {post : Int32 → Prop} (hs : s < S) (k : post (tf s)) : w_X10_bitsOf (nI P) pt tk (nI s) 1 post :=
  bitsOf_spec (row := tk) hN.1.1 (by have := hN.1.2; omega) rfl hN.2.2.2.1 (fun p h1 h2 => (hN.2.2.2.2.2.2.2.2.2.1 s p (by have := hN.1.2; omega) h2 (Or.inr h1)).1) (hN.2.2.2.2.2.2.2.2.2.2.2.1 s (by have := hN.1.2; omega)) k
theorem readSteps_spec (hN : cNet P S pk sk tk pt nd cl wt gf tf pi hd co) {w : Int32} {ans ask : Nat → Int32} {post : (Nat → Int32) → (Nat → Int32) → Prop} (hw : w = 0 ∨ w = 1) (h : ∀ ans' ask', (∀ s, s < S → ask' s = ENT w pi tf s ∧ ans' s = EXT w pi tf s) → post ans' ask') : w_X10_readSteps (nI P) (nI S) ans ask pt tk w post := by
  have hS16 := hN.1.2
  refine pk_loop (σ := (Nat → Int32) × (Nat → Int32)) (fun f i g => w_X10_readSteps_L2 w (nI P) (nI S) pt tk post (fun _ s21 s22 => post s21 s22) f (nI i) g.1 g.2) (fun i g => ∀ s, s < i → g.2 s = ENT w pi tf s ∧ g.1 s = EXT w pi tf s) S 0 (ans, ask) (by omega) (fun s hs => absurd hs (by omega)) ?_ ?_
  · intro f g hg
    exact tt (nI_le (Nat.le_refl S) (by omega)) (h _ _ hg)
  · intro f i g hi hg ih
    have hin : vp_in (nI i) 16 := vp_in_nI (by omega) (by omega)
    refine ff (nI_ge hi (by omega)) ?_
    have nxt : ∀ a b, a = EXT w pi tf i → b = ENT w pi tf i → ∀ s, s < i + 1 → upd g.2 i b s = ENT w pi tf s ∧ upd g.1 i a s = EXT w pi tf s := fun a b ea eb s hs => by
      by_cases e : s = i
      · rw [e, pk_us, pk_us]; exact ⟨eb, ea⟩
      · rw [pk_un e, pk_un e]; exact hg s (by omega)
    rcases hw with c | c
    · refine nf (by rw [c]; decide) (bits0 hN hi ⟨hin, nt c (bits1 hN hi ⟨hin, nm ?_⟩)⟩)
      rw [nI_1, nI_cl (n := i) (by omega)]
      exact ih (upd g.1 i (tf i), upd g.2 i (pi i)) (nxt _ _ (by unfold EXT; rw [if_pos c]) (by unfold ENT; rw [if_pos c]))
    · refine nt c (bits1 hN hi ⟨hin, nf (by rw [c]; decide) (bits0 hN hi ⟨hin, nm ?_⟩)⟩)
      rw [nI_1, nI_cl (n := i) (by omega)]
      exact ih (upd g.1 i (pi i), upd g.2 i (tf i)) (nxt _ _ (by unfold EXT; rw [if_neg (by rw [c]; decide)]) (by unfold ENT; rw [if_neg (by rw [c]; decide)]))
end SETS
theorem kept_spec {S : Nat} {en ex ans ask : Nat → Int32} {x : Int32} {post : Int32 → Prop} (hS : S ≤ 16) (ha : ∀ s, s < S → ask s = en s ∧ ans s = ex s) (h1 : ¬ x = 0 → KP S en ex x → post 1) (h0 : ¬ (¬ x = 0 ∧ KP S en ex x) → post 0) : w_X10_isKept (nI S) ans ask x post := by
  have step : ∀ {f i : Nat} {v : Int32} {A : Nat → Prop}, i < S → ((¬ v = 0 → A i → True)) → True := fun _ _ => trivial
  refine ⟨fun c => ?_, fun c => ?_⟩
  · refine pk_loop (fun f i (v : Int32) => w_X10_isKept_L12 x (nI S) ans ask post (fun v16 _ => v16 &&& 1 = v16 ∧ post v16) f v (nI i)) (fun i v => v = 0) S 0 0 (by omega) rfl ?_ ?_
    · intro f v hg
      rw [hg]
      exact tt (nI_le (Nat.le_refl S) (by omega)) ⟨by decide, h0 (fun q => q.1 c)⟩
    · intro f i v hi hg ih
      rw [hg]
      refine ff (nI_ge hi (by omega)) (z0 (nm ?_))
      rw [nI_1]; exact ih _ rfl
  · refine pk_loop (fun f i (v : Int32) => w_X10_isKept_L12 x (nI S) ans ask post (fun v16 _ => v16 &&& 1 = v16 ∧ post v16) f v (nI i)) (fun i v => fl (fun s => ¬ (en s &&& x) = 0 → ¬ (ex s &&& x) = 0) i v) S 0 1 (by omega) (fl_0 _) ?_ ?_
    · intro f v hg
      exact tt (nI_le (Nat.le_refl S) (by omega)) (fl_post hg (fun q => h1 c q) (fun q => h0 (fun w => q w.2)))
    · intro f i v hi hg ih
      have hin : vp_in (nI i) 16 := vp_in_nI (by omega) (by omega)
      refine ff (nI_ge hi (by omega)) ⟨fun c => nm ?_, fun c => ⟨hin, ?_⟩⟩
      · rw [nI_1]; exact ih _ (fl_keep hg c)
      · rw [nI_cl (n := i) (by omega), (ha i hi).1, (ha i hi).2, and_c x (en i), and_c x (ex i)]
        by_cases d1 : (en i &&& x) = 0
        · refine tt d1 (nm ?_)
          rw [nI_1]; exact ih _ (fl_yes hg c (fun q => absurd d1 q))
        · refine ff d1 ⟨hin, ?_⟩
          by_cases d2 : (ex i &&& x) = 0
          · refine tt d2 (nm ?_)
            rw [nI_1]; exact ih _ (fl_no (fun w => w d1 d2))
          · refine ff d2 (nm ?_)
            rw [nI_1]; exact ih _ (fl_yes hg c (fun _ => d2))
/-- both tests of what is asked -/
theorem bits_case {P : Nat} {a1 a2 : Int32} (hP : P ≤ 16) : ((¬ (a2 = 0 ∨ a2 = 1)) ∨ (a1 < 0 ∨ nI (2 ^ P) ≤ a1)) ∨ ((a2 = 0 ∨ a2 = 1) ∧ ∃ v : Nat, v < 2 ^ P ∧ a1 = nI v ∧ ¬ a1 < 0 ∧ ¬ nI (2 ^ P) ≤ a1) := by
  by_cases c : a2 = 0 ∨ a2 = 1
  · have := pow16 hP
    rcases ix3 a1 (2 ^ P) (by omega) with h | h
    · exact Or.inl (Or.inr h)
    · exact Or.inr ⟨c, h⟩
  · exact Or.inl (Or.inl c)
theorem kind_yes {a : Int32} {post : Int32 → Prop} (h : a = 0 ∨ a = 1) (k : post 1) : w_X9_isSetKind a post := by
  rcases h with h | h
  · exact tt h k
  · exact ff (by rw [h]; decide) (nt h k)
theorem kind_no {a : Int32} {post : Int32 → Prop} (h : ¬ (a = 0 ∨ a = 1)) (k : post 0) : w_X9_isSetKind a post := ff (fun q => h (Or.inl q)) (nf (fun q => h (Or.inr q)) k)
theorem in01_no {a : Int32} {post : Int32 → Prop} (h : ¬ (a = 0 ∨ a = 1)) (k : post 0) : w_X10_isIn a 0 1 post := by
  rcases rng a 1 (by omega) with q | ⟨v, hv, e, -, -⟩
  · exact isInR_no (n := 1) q k
  · refine absurd ?_ h
    rcases (show v = 0 ∨ v = 1 by omega) with z | z
    · left; rw [e, z]; rfl
    · right; rw [e, z]; rfl
theorem in01_yes {a : Int32} {post : Int32 → Prop} (h : a = 0 ∨ a = 1) (k : post 1) : w_X10_isIn a 0 1 post := by
  rcases h with rfl | rfl
  · exact isIn_in (by decide) (by decide) k
  · exact isIn_in (by decide) (by decide) k
theorem areBits_yes {P v : Nat} {a2 : Int32} {post : Int32 → Prop} (hP : P ≤ 16) (h : a2 = 0 ∨ a2 = 1) (hv : v < 2 ^ P) (k : post 1) : w_X10_areBits (nI P) (nI v) a2 post := by
  have := pow16 hP
  refine in01_yes h (z1 ?_)
  rw [shl1 P (by omega)]
  exact isInM_yes (by omega) hv (z1 k)
theorem areBits_no {P : Nat} {a1 a2 : Int32} {post : Int32 → Prop} (hP : P ≤ 16) (h : (¬ (a2 = 0 ∨ a2 = 1)) ∨ (a1 < 0 ∨ nI (2 ^ P) ≤ a1)) (k : post 0) : w_X10_areBits (nI P) a1 a2 post := by
  have := pow16 hP
  by_cases c : a2 = 0 ∨ a2 = 1
  · refine in01_yes c (z1 ?_)
    rw [shl1 P (by omega)]
    exact isInM_no (by omega) (h.resolve_left (fun q => q c)) (z0 k)
  · exact in01_no c (z0 k)
theorem hasPlaces_yes {P : Nat} {a1 : Int32} {post : Int32 → Prop} (hP : P ≤ 16) (h1 : ¬ a1 < 0) (h2 : ¬ nI (2 ^ P) ≤ a1) (k : post 1) : w_X5_hasPlaces (nI P) a1 post := by
  refine ff h1 ?_
  rw [shl1 P (by omega)]
  exact ff h2 k
theorem hasPlaces_no {P : Nat} {a1 : Int32} {post : Int32 → Prop} (hP : P ≤ 16) (h : a1 < 0 ∨ nI (2 ^ P) ≤ a1) (k : post 0) : w_X5_hasPlaces (nI P) a1 post := by
  by_cases c : a1 < 0
  · exact tt c k
  · refine ff c ?_
    rw [shl1 P (by omega)]
    exact tt (h.resolve_left c) k
theorem p_50 : St_50 Inw := by
  intro XI XA XL MI MA ML hI a1 a2
  obtain ⟨P, S, hq, hN, hW, hPa, hH, hg, hF, hT, hb1, hb2, hs⟩ := id hI
  obtain ⟨q9, m0, q10, m1, k5, k27, k29, k24, k16, k4, k31, k10⟩ := id hq
  have hP16 : P ≤ 16 := hN.1.1
  have hS16 : S ≤ 16 := hN.1.2
  have hI' : ∀ y3 y4, Inw XI XA XL MI (va_up (va_up MA 1 y3) 2 y4) ML := fun y3 y4 => ⟨P, S, hq, hN, hW, hPa, hH, hg, hF, hT, hb1, hb2, hs⟩
  unfold ls_50 w_X9_isSet w_X10_isSet
  rw [q9, m0, q10, m1, k29, k24]
  rcases bits_case (a1 := a1) (a2 := a2) hP16 with h | ⟨hk, v, hv, rfl, h1, h2⟩
  · by_cases c : a2 = 0 ∨ a2 = 1
    · exact kind_yes c (z1 (hasPlaces_no hP16 (h.resolve_left (fun q => q c)) (y0 (areBits_no hP16 h (y0 ⟨rfl, hI' _ _⟩)))))
    · exact kind_no c (z0 (areBits_no hP16 h (y0 ⟨rfl, hI' _ _⟩)))
  · refine kind_yes hk (z1 (hasPlaces_yes hP16 h1 h2 (y1 ?_)))
    by_cases c : nI v = 0
    · refine tt c (areBits_yes hP16 hk hv (y1 (readSteps_spec hN hk (fun ans ask ha => kept_spec hS16 ha (fun q => absurd c q) (fun _ => z0 ⟨rfl, hI' _ _⟩)))))
    · refine ff c (gX_spec hP16 hS16 (BD_nI hv) (fun g hG => ?_))
      by_cases d : g = nI v
      · refine nt d (areBits_yes hP16 hk hv (y1 (readSteps_spec hN hk (fun ans ask ha => kept_spec hS16 ha (fun _ _ => z1 ⟨rfl, hI' _ _⟩) (fun q => absurd ⟨c, ?_⟩ q)))))
        rw [← d]; exact hG.1
      · refine nf d (areBits_yes hP16 hk hv (y1 (readSteps_spec hN hk (fun ans ask ha => kept_spec hS16 ha (fun _ q => absurd (SB_anti hG.2.1 (hG.2.2 _ q (SB_refl _))) d) (fun q => z0 ⟨rfl, hI' _ _⟩)))))
theorem p_51 : St_51 Inw := by
  intro XI XA XL MI MA ML hI a1 a2
  obtain ⟨P, S, hq, hN, hW, hPa, hH, hg, hF, hT, hb1, hb2, hs⟩ := id hI
  obtain ⟨q9, m0, q10, m1, k5, k27, k29, k24, k16, k4, k31, k10⟩ := id hq
  have hP16 : P ≤ 16 := hN.1.1
  have hS16 : S ≤ 16 := hN.1.2
  have hI' : ∀ y3 y4, Inw XI XA XL MI (va_up (va_up MA 1 y3) 2 y4) ML := fun y3 y4 => ⟨P, S, hq, hN, hW, hPa, hH, hg, hF, hT, hb1, hb2, hs⟩
  unfold ls_51 w_X9_greatest w_X10_greatest
  rw [q9, m0, q10, m1, k29, k24]
  rcases bits_case (a1 := a1) (a2 := a2) hP16 with h | ⟨hk, v, hv, rfl, h1, h2⟩
  · by_cases c : a2 = 0 ∨ a2 = 1
    · exact kind_yes c (z1 (hasPlaces_no hP16 (h.resolve_left (fun q => q c)) (y0 (areBits_no hP16 h (y0 ⟨rfl, hI' _ _⟩)))))
    · exact kind_no c (z0 (areBits_no hP16 h (y0 ⟨rfl, hI' _ _⟩)))
  · refine kind_yes hk (z1 (hasPlaces_yes hP16 h1 h2 (y1 ?_)))
    refine gX_spec hP16 hS16 (BD_nI hv) (fun g hG => ?_)
    refine areBits_yes hP16 hk hv (y1 (readSteps_spec hN hk (fun ans ask ha => gM_spec (P := P) hS16 (BD_nI hv) ha (fun g' hG' => ⟨GR_uniq hG hG', hI' _ _⟩))))
