/-! ===== whether a step may, on the reference's side; urgent ones; p_14 ===== -/
/-- the plain part of a claim -/
def LT (tk nd cl many : Nat → Int32) (s p : Nat) : Prop := ¬ many p < tk (16 * s + p) ∧ ¬ many p < nd (16 * s + p) ∧ (cl (16 * s + p) = 0 ∨ many p = 0)
theorem lets_yes {N s p at_ : Nat} {cl nd tk row : Nat → Int32} {post : Int32 → Prop} (hs : s < 16) (hp : p < 16) (hN : at_ + p < N) (hN2 : N < 2 ^ 31) (h : LT tk nd cl (fun p => row (at_ + p)) s p) (k : post 1) : w_X10_lets N cl nd tk row (nI s) (nI p) (nI at_) post := by
  unfold w_X10_lets
  refine nm ?_
  rw [ixA, nI_add]
  have hx : vp_in (nI (16 * s + p)) 256 := vp_in_nI (by omega) (by omega)
  refine ⟨vp_in_nI hN hN2, nm ⟨hx, ?_⟩⟩
  rw [nI_cl (n := at_ + p) (by omega), nI_cl (n := 16 * s + p) (by omega)]
  refine ff h.1 ⟨hx, ff h.2.1 ⟨hx, ?_⟩⟩
  by_cases c : cl (16 * s + p) = 0
  · exact tt c k
  · exact ff c (nt (h.2.2.resolve_left c) k)
theorem lets_no {N s p at_ : Nat} {cl nd tk row : Nat → Int32} {post : Int32 → Prop} (hs : s < 16) (hp : p < 16) (hN : at_ + p < N) (hN2 : N < 2 ^ 31) (h : ¬ LT tk nd cl (fun p => row (at_ + p)) s p) (k : post 0) : w_X10_lets N cl nd tk row (nI s) (nI p) (nI at_) post := by
  unfold w_X10_lets
  refine nm ?_
  rw [ixA, nI_add]
  have hx : vp_in (nI (16 * s + p)) 256 := vp_in_nI (by omega) (by omega)
  refine ⟨vp_in_nI hN hN2, nm ⟨hx, ?_⟩⟩
  rw [nI_cl (n := at_ + p) (by omega), nI_cl (n := 16 * s + p) (by omega)]
  by_cases c1 : row (at_ + p) < tk (16 * s + p)
  · exact tt c1 k
  refine ff c1 ⟨hx, ?_⟩
  by_cases c2 : row (at_ + p) < nd (16 * s + p)
  · exact tt c2 k
  refine ff c2 ⟨hx, ?_⟩
  by_cases c3 : cl (16 * s + p) = 0
  · exact absurd ⟨c1, c2, Or.inl c3⟩ h
  · refine ff c3 (nf (fun c4 => h ⟨c1, c2, Or.inr c4⟩) k)
theorem mayIn_spec {N P s at_ : Nat} {cl nd tk row : Nat → Int32} {post : Int32 → Prop} (hP : P ≤ 16) (hs : s < 16) (hN : at_ + P ≤ N) (hN2 : N < 2 ^ 31) (h1 : (∀ p, p < P → LT tk nd cl (fun p => row (at_ + p)) s p) → post 1) (h0 : (¬ ∀ p, p < P → LT tk nd cl (fun p => row (at_ + p)) s p) → post 0) : w_X10_mayIn N (nI P) cl nd tk row (nI s) (nI at_) post := by
  refine pk_loop (fun n i (v : Int32) => w_X10_mayIn_L6 N (nI s) (nI at_) (nI P) cl nd tk row post (fun v12 _ => v12 &&& 1 = v12 ∧ post v12) n v (nI i)) (fun i v => fl (fun p => LT tk nd cl (fun p => row (at_ + p)) s p) i v) P 0 1 (by omega) (fl_0 _) ?_ ?_
  · intro n v hg
    refine tt (nI_le (Nat.le_refl P) (by omega)) ⟨fl_b hg, ?_⟩
    by_cases c : v = 0
    · rw [c]; exact h0 (fun q => (fl_all hg).mpr q c)
    · have h := h1 ((fl_all hg).mp c)
      rcases hg with ⟨e, -⟩ | ⟨e, -⟩
      · rw [e]; exact h
      · exact absurd e c
  · intro n i v hi hg ih
    refine ff (nI_ge hi (by omega)) ⟨fun c => nm ?_, fun c => ?_⟩
    · rw [nI_1]; exact ih _ (fl_keep hg c)
    · by_cases d : LT tk nd cl (fun p => row (at_ + p)) s i
      · refine lets_yes hs (by omega) (by omega) hN2 d (z1 (nm ?_))
        rw [nI_1]; exact ih _ (fl_yes hg c d)
      · refine lets_no hs (by omega) (by omega) hN2 d (z0 (nm ?_))
        rw [nI_1]; exact ih _ (fl_no d)
/-- things wanted, by the reference's row of things -/
def cntM (has wt mth : Nat → Int32) (s p : Nat) : Nat := cM mth (wt (16 * s + p)) p (has p).toNatClampNeg
theorem wantIn_spec {s p v : Nat} {fg pl : Int32} {colour has tk mth wt : Nat → Int32} {post : Int32 → Prop} {K : Int32 → Int32 → Prop} (hs : s < 16) (hp : p < 16) (hv : has p = nI v) (hb : v ≤ 1000000000) (hc : colour p = 1 → v ≤ 20) (h1 : colour p = 1 → ∀ x, K (nI (cM mth (wt (16 * s + p)) p v)) x) (h0 : ¬ colour p = 1 → ∀ x y, K x y) : ∃ n : Nat, w_X10_hasWanted_L18 (nI s) fg (nI p) pl colour has tk mth wt post K n 0 0 := by
  have hin : vp_in (nI p) 16 := vp_in_nI hp (by omega)
  have hcl : (nI p).toNatClampNeg = p := nI_cl (by omega)
  by_cases c : colour p = 1
  · have hv20 := hc c
    refine pk_loop (fun n i (g : Int32) => w_X10_hasWanted_L18 (nI s) fg (nI p) pl colour has tk mth wt post K n g (nI i)) (fun i g => g = nI (cM mth (wt (16 * s + p)) p i)) v 0 0 (by omega) rfl ?_ ?_
    · intro n g hg
      subst hg
      refine ⟨hin, tt ?_ (h1 c _)⟩
      rw [hcl, hv]; exact nI_le (Nat.le_refl v) (by omega)
    · intro n i g hi hg ih
      subst hg
      refine ⟨hin, ff ?_ ⟨hin, ?_⟩⟩
      · rw [hcl, hv]; exact nI_ge hi (by omega)
      rw [hcl, ixT, ixA]
      refine nt c ⟨vp_in_nI (by omega) (by omega), vp_in_nI (by omega) (by omega), ?_⟩
      rw [nI_cl (n := 20 * p + i) (by omega), nI_cl (n := 16 * s + p) (by omega)]
      by_cases d : ofKb (mth (20 * p + i)) (wt (16 * s + p)) = true
      · refine kM_yes d (z1 (nm (nm ?_)))
        rw [nI_1, nI_1]
        refine ih _ ?_
        show nI (cM mth (wt (16 * s + p)) p i + 1) = nI (cM mth (wt (16 * s + p)) p i + _)
        rw [if_pos d]
      · refine kM_no d (z0 (nm (nm ?_)))
        rw [nI_1]
        refine ih _ ?_
        show nI (cM mth (wt (16 * s + p)) p i) + nI 0 = nI (cM mth (wt (16 * s + p)) p i + _)
        rw [if_neg d, nI_add]
  · refine ⟨1, ?_⟩
    show vp_in (nI p) 16 ∧ _
    refine ⟨hin, ?_⟩
    by_cases d : has (nI p).toNatClampNeg ≤ 0
    · exact tt d (h0 c _ _)
    · refine ff d ⟨hin, ?_⟩
      rw [hcl]
      exact nf c (h0 c _ _)
theorem wanted_spec {P s : Nat} {colour has tk mth wt : Nat → Int32} {post : Int32 → Prop} (hP : P ≤ 16) (hs : s < 16) (hcol : ∀ p, p < P → colour p = 0 ∨ colour p = 1) (hh : ∀ p, p < P → ∃ v : Nat, has p = nI v ∧ v ≤ 1000000000 ∧ (colour p = 1 → v ≤ 20))
    (h1 : (∀ p, p < P → colour p = 0 ∨ ¬ nI (cntM has wt mth s p) < tk (16 * s + p)) → post 1) (h0 : (¬ ∀ p, p < P → colour p = 0 ∨ ¬ nI (cntM has wt mth s p) < tk (16 * s + p)) → post 0) : w_X10_hasWanted (nI P) colour has tk mth wt (nI s) post := by
  refine pk_loop (fun n i (v : Int32) => w_X10_hasWanted_L4 (nI s) (nI P) colour has tk mth wt post (fun v28 _ => v28 &&& 1 = v28 ∧ post v28) n v (nI i)) (fun i v => fl (fun p => colour p = 0 ∨ ¬ nI (cntM has wt mth s p) < tk (16 * s + p)) i v) P 0 1 (by omega) (fl_0 _) ?_ ?_
  · intro n v hg
    refine tt (nI_le (Nat.le_refl P) (by omega)) ⟨fl_b hg, ?_⟩
    by_cases c : v = 0
    · rw [c]; exact h0 (fun q => (fl_all hg).mpr q c)
    · have h := h1 ((fl_all hg).mp c)
      rcases hg with ⟨e, -⟩ | ⟨e, -⟩
      · rw [e]; exact h
      · exact absurd e c
  · intro n i v hi hg ih
    obtain ⟨x, ex, bx, cx⟩ := hh i hi
    have hin : vp_in (nI i) 16 := vp_in_nI (by omega) (by omega)
    have ecnt : cntM has wt mth s i = cM mth (wt (16 * s + i)) i x := by
      show cM mth (wt (16 * s + i)) i (has i).toNatClampNeg = _
      rw [ex, nI_cl (by omega)]
    have fin : ∀ g : Int32, (colour i = 1 → g = nI (cntM has wt mth s i)) → ((v = 0 → ∀ x19 : Int32, x19 = nI i + (1 : Int32) → w_X10_hasWanted_L4 (nI s) (nI P) colour has tk mth wt post (fun v28 _ => v28 &&& 1 = v28 ∧ post v28) n 0 x19) ∧ (¬ v = 0 → vp_in (nI i) 16 ∧ ((colour (nI i).toNatClampNeg) = 0 → ∀ x22 : Int32, x22 = nI i + (1 : Int32) → w_X10_hasWanted_L4 (nI s) (nI P) colour has tk mth wt post (fun v28 _ => v28 &&& 1 = v28 ∧ post v28) n 1 x22) ∧ (¬ (colour (nI i).toNatClampNeg) = 0 → vp_in ((16 : Int32) * nI s + nI i) 256 ∧ (g < (tk ((16 : Int32) * nI s + nI i).toNatClampNeg) → ∀ x25 : Int32, x25 = nI i + (1 : Int32) → w_X10_hasWanted_L4 (nI s) (nI P) colour has tk mth wt post (fun v28 _ => v28 &&& 1 = v28 ∧ post v28) n 0 x25) ∧ (¬ g < (tk ((16 : Int32) * nI s + nI i).toNatClampNeg) → ∀ x26 : Int32, x26 = nI i + (1 : Int32) → w_X10_hasWanted_L4 (nI s) (nI P) colour has tk mth wt post (fun v28 _ => v28 &&& 1 = v28 ∧ post v28) n 1 x26)))) := by
      intro g hgv
      refine ⟨fun c => nm ?_, fun c => ⟨hin, ?_⟩⟩
      · rw [nI_1]; exact ih _ (fl_keep hg c)
      rw [nI_cl (n := i) (by omega), ixA, nI_cl (n := 16 * s + i) (by omega)]
      by_cases d : colour i = 0
      · refine tt d (nm ?_)
        rw [nI_1]; exact ih _ (fl_yes hg c (Or.inl d))
      · refine ff d ⟨vp_in_nI (by omega) (by omega), ?_⟩
        have d1 : colour i = 1 := (hcol i hi).resolve_left d
        rw [hgv d1]
        by_cases f : nI (cntM has wt mth s i) < tk (16 * s + i)
        · refine tt f (nm ?_)
          rw [nI_1]; exact ih _ (fl_no (fun q => q.elim d (fun r => r f)))
        · refine ff f (nm ?_)
          rw [nI_1]; exact ih _ (fl_yes hg c (Or.inr f))
    refine ff (nI_ge hi (by omega)) (wantIn_spec hs (by omega) ex bx cx (fun c x => ?_) (fun c x y => ?_))
    · exact fin _ (fun _ => by rw [ecnt])
    · exact fin _ (fun q => absurd q c)
/-- MAY, in one word for both sides -/
def MAY (P : Nat) (pk tk nd cl wt has mth : Nat → Int32) (s : Nat) : Prop := ∀ p, p < P → AL pk tk nd cl has (cntM has wt mth s) s p
theorem mayNow_spec {P s : Nat} {cl pk has nd tk mth wt : Nat → Int32} {post : Int32 → Prop} (hP : P ≤ 16) (hs : s < 16) (hcol : ∀ p, p < P → pk p = 0 ∨ pk p = 1) (hh : ∀ p, p < P → ∃ v : Nat, has p = nI v ∧ v ≤ 1000000000 ∧ (pk p = 1 → v ≤ 20)) (h1 : MAY P pk tk nd cl wt has mth s → post 1) (h0 : ¬ MAY P pk tk nd cl wt has mth s → post 0) : w_X10_mayNow (nI P) cl pk has nd tk mth wt (nI s) post := by
  have e0 : ∀ p, (fun p => has (0 + p)) p = has p := fun p => by show has (0 + p) = has p; rw [Nat.zero_add]
  have eL : (fun p => has (0 + p)) = has := funext e0
  refine mayIn_spec (at_ := 0) hP hs (by omega) (by omega) (fun c => z1 ?_) (fun c => z0 (h0 (fun q => c ?_)))
  · rw [eL] at c
    refine wanted_spec hP hs hcol hh (fun d => z1 (h1 (fun p hp => ⟨(c p hp).1, (c p hp).2.1, (c p hp).2.2, d p hp⟩))) (fun d => z0 (h0 (fun q => d (fun p hp => (q p hp).2.2.2))))
  · rw [eL]
    exact fun p hp => ⟨(q p hp).1, (q p hp).2.1, (q p hp).2.2.1⟩
/-- the class's side, of what there is -/
theorem allowsNow_spec {P S s : Nat} {pk sk tk pt nd cl wt gf tf pi hd many has mth : Nat → Int32} {things : Nat → Int64} {co : Int32} {post : Int32 → Prop} (hN : cNet P S pk sk tk pt nd cl wt gf tf pi hd co) (hW : cNow P pk many things has mth) (hs : s < 16) (h1 : MAY P pk tk nd cl wt has mth s → post 1) (h0 : ¬ MAY P pk tk nd cl wt has mth s → post 0) : w_X5_allows (nI P) cl hd nd pk tk wt many things (nI s) post := by
  obtain ⟨⟨hP16, hS16⟩, n1, n2, n3, n4, n5, n6, n7, n8, n9, n10, n11, n12, n13, n14⟩ := hN
  have eA : ∀ p, p < P → (AL pk tk nd cl many (cntM has wt mth s) s p ↔ AL pk tk nd cl has (cntM has wt mth s) s p) := fun p hp => by
    unfold AL; rw [(hW p (by omega)).1]
  refine allows_gen (cnt := cntM has wt mth s) hP16 hs n3 n6 (n13 s hs) (fun p hp => ?_) (fun p hp => ?_) (fun p hp => ?_) (fun c => h1 (fun p hp => (eA p hp).mp (c p hp))) (fun c => h0 (fun q => c (fun p hp => (eA p hp).mpr (q p hp))))
  · obtain ⟨e, v, ev, bv, -⟩ := hW p (by omega)
    rw [e, ev]; exact nI_pos (by omega)
  · obtain ⟨e, v, ev, bv, -⟩ := hW p (by omega)
    have := cM_le (p := p) (w := wt (16 * s + p)) (mth := mth) (has p).toNatClampNeg
    show cM mth (wt (16 * s + p)) p (has p).toNatClampNeg < 2 ^ 31
    rw [ev, nI_cl (by omega)] at this ⊢
    omega
  · rcases n1 p hp with c | c
    · exact Or.inl c
    · obtain ⟨e, v, ev, bv, -, h5⟩ := hW p (by omega)
      obtain ⟨u1, t, u2, u3, u4⟩ := h5 hp c
      refine Or.inr ⟨c, v, t, e.trans ev, u1, u2, u3, ?_⟩
      show cM mth (wt (16 * s + p)) p (has p).toNatClampNeg = _
      rw [ev, nI_cl (by omega)]
      exact cW_cM v u4
def URG (P S : Nat) (pk sk tk nd cl wt has mth : Nat → Int32) : Prop := ∃ s, s < S ∧ sk s = 3 ∧ MAY P pk tk nd cl wt has mth s
theorem urgesNow_spec {P S : Nat} {pk sk tk pt nd cl wt gf tf pi hd many has mth : Nat → Int32} {things : Nat → Int64} {co : Int32} {post : Int32 → Prop} (hN : cNet P S pk sk tk pt nd cl wt gf tf pi hd co) (hW : cNow P pk many things has mth) (h1 : URG P S pk sk tk nd cl wt has mth → post 1) (h0 : ¬ URG P S pk sk tk nd cl wt has mth → post 0) : w_X5_urges (nI P) (nI S) cl hd nd pk sk tk wt many things post := by
  have hS16 : S ≤ 16 := hN.1.2
  refine pk_loop (fun n i (_ : Unit) => w_X5_urges_L2 (nI P) (nI S) cl hd nd pk sk tk wt many things post (fun _ => post 0) n (nI i)) (fun i _ => ∀ s, s < i → ¬ (sk s = 3 ∧ MAY P pk tk nd cl wt has mth s)) S 0 () (by omega) (fun s hs => absurd hs (by omega)) ?_ ?_
  · intro n _ hg
    exact tt (nI_le (Nat.le_refl S) (by omega)) (h0 (fun ⟨s, hs, q⟩ => hg s hs q))
  · intro n i _ hi hg ih
    have nxt : ¬ (sk i = 3 ∧ MAY P pk tk nd cl wt has mth i) → ∀ s, s < i + 1 → ¬ (sk s = 3 ∧ MAY P pk tk nd cl wt has mth s) := fun ha s hs => by
      by_cases e : s = i
      · subst e; exact ha
      · exact hg s (by omega)
    refine ff (nI_ge hi (by omega)) ⟨vp_in_nI (by omega) (by omega), ?_⟩
    rw [nI_cl (n := i) (by omega)]
    by_cases c : sk i = 3
    · refine nt c (allowsNow_spec hN hW (by omega) (fun d => z1 (h1 ⟨i, hi, c, d⟩)) (fun d => z0 (nm ?_)))
      rw [nI_1]; exact ih () (nxt (fun q => d q.2))
    · refine nf c (nm ?_)
      rw [nI_1]; exact ih () (nxt (fun q => c q.1))
theorem urgentM_spec {P S : Nat} {cl pk has nd sk tk mth wt : Nat → Int32} {post : Int32 → Prop} (hP : P ≤ 16) (hS : S ≤ 16) (hcol : ∀ p, p < P → pk p = 0 ∨ pk p = 1) (hh : ∀ p, p < P → ∃ v : Nat, has p = nI v ∧ v ≤ 1000000000 ∧ (pk p = 1 → v ≤ 20)) (h1 : URG P S pk sk tk nd cl wt has mth → post 1) (h0 : ¬ URG P S pk sk tk nd cl wt has mth → post 0) : w_X10_isUrgentNow (nI P) (nI S) cl pk has nd sk tk mth wt post := by
  refine pk_loop (fun n i (v : Int32) => w_X10_isUrgentNow_L4 (nI P) (nI S) cl pk has nd sk tk mth wt post (fun v15 _ => v15 &&& 1 = v15 ∧ post v15) n v (nI i)) (fun i v => (v = 1 ∧ ∃ s, s < i ∧ sk s = 3 ∧ MAY P pk tk nd cl wt has mth s) ∨ (v = 0 ∧ ∀ s, s < i → ¬ (sk s = 3 ∧ MAY P pk tk nd cl wt has mth s))) S 0 0 (by omega) (Or.inr ⟨rfl, fun s hs => absurd hs (by omega)⟩) ?_ ?_
  · intro n v hg
    refine tt (nI_le (Nat.le_refl S) (by omega)) ?_
    rcases hg with ⟨rfl, s, hs, q⟩ | ⟨rfl, q⟩
    · exact ⟨by decide, h1 ⟨s, hs, q⟩⟩
    · exact ⟨by decide, h0 (fun ⟨s, hs, r⟩ => q s hs r)⟩
  · intro n i v hi hg ih
    refine ff (nI_ge hi (by omega)) ?_
    rcases hg with ⟨rfl, s, hs, q⟩ | ⟨rfl, q⟩
    · refine y1 (nm ?_)
      rw [nI_1]; exact ih _ (Or.inl ⟨rfl, s, by omega, q⟩)
    · refine y0 ⟨vp_in_nI (by omega) (by omega), ?_⟩
      have nxt : ¬ (sk i = 3 ∧ MAY P pk tk nd cl wt has mth i) → ∀ s, s < i + 1 → ¬ (sk s = 3 ∧ MAY P pk tk nd cl wt has mth s) := fun ha s hs => by
        by_cases e : s = i
        · subst e; exact ha
        · exact q s (by omega)
      rw [nI_cl (n := i) (by omega)]
      by_cases c : sk i = 3
      · refine nt c (mayNow_spec hP (by omega) hcol hh (fun d => z1 (nm ?_)) (fun d => z0 (nm ?_)))
        · rw [nI_1]; exact ih _ (Or.inl ⟨rfl, i, by omega, c, d⟩)
        · rw [nI_1]; exact ih _ (Or.inr ⟨rfl, nxt (fun r => d r.2)⟩)
      · refine nf c (nm ?_)
        rw [nI_1]; exact ih _ (Or.inr ⟨rfl, nxt (fun r => c r.1)⟩)
def GOES (P S : Nat) (pk sk tk nd cl wt has mth : Nat → Int32) (s : Nat) : Prop := MAY P pk tk nd cl wt has mth s ∧ (sk s = 3 ∨ ¬ URG P S pk sk tk nd cl wt has mth)
theorem goesX_spec {P S s : Nat} {pk sk tk pt nd cl wt gf tf pi hd many has mth : Nat → Int32} {things : Nat → Int64} {co : Int32} {post : Int32 → Prop} (hN : cNet P S pk sk tk pt nd cl wt gf tf pi hd co) (hW : cNow P pk many things has mth) (hs : s < 16) (h1 : GOES P S pk sk tk nd cl wt has mth s → post 1) (h0 : ¬ GOES P S pk sk tk nd cl wt has mth s → post 0) : w_X5_goes (nI P) (nI S) cl hd nd pk sk tk wt many things (nI s) post := by
  refine allowsNow_spec hN hW hs (fun c => z1 ⟨vp_in_nI hs (by omega), ?_⟩) (fun c => z0 (h0 (fun q => c q.1)))
  rw [nI_cl (n := s) (by omega)]
  by_cases d : sk s = 3
  · exact tt d (h1 ⟨c, Or.inl d⟩)
  · exact ff d (urgesNow_spec hN hW (fun u => y1 (h0 (fun q => (q.2.resolve_left d) u))) (fun u => y0 (h1 ⟨c, Or.inr u⟩)))
theorem goesM_spec {P S s : Nat} {cl pk has nd sk tk mth wt : Nat → Int32} {post : Int32 → Prop} (hP : P ≤ 16) (hS : S ≤ 16) (hs : s < 16) (hcol : ∀ p, p < P → pk p = 0 ∨ pk p = 1) (hh : ∀ p, p < P → ∃ v : Nat, has p = nI v ∧ v ≤ 1000000000 ∧ (pk p = 1 → v ≤ 20)) (h1 : GOES P S pk sk tk nd cl wt has mth s → post 1) (h0 : ¬ GOES P S pk sk tk nd cl wt has mth s → post 0) : w_X10_goesNow (nI P) (nI S) cl pk has nd sk tk mth wt (nI s) post := by
  refine mayNow_spec hP hs hcol hh (fun c => z1 ⟨vp_in_nI hs (by omega), ?_⟩) (fun c => z0 (h0 (fun q => c q.1)))
  rw [nI_cl (n := s) (by omega)]
  by_cases d : sk s = 3
  · exact tt d (h1 ⟨c, Or.inl d⟩)
  · exact ff d (urgentM_spec hP hS hcol hh (fun u => y1 (h0 (fun q => (q.2.resolve_left d) u))) (fun u => y0 (h1 ⟨c, Or.inr u⟩)))
theorem now_rng {P : Nat} {pk many has mth : Nat → Int32} {things : Nat → Int64} (hP : P ≤ 16) (hW : cNow P pk many things has mth) : ∀ p, p < P → ∃ v : Nat, has p = nI v ∧ v ≤ 1000000000 ∧ (pk p = 1 → v ≤ 20) := fun p hp => by
  obtain ⟨-, v, ev, bv, -, h5⟩ := hW p (by omega)
  exact ⟨v, ev, bv, fun c => (h5 hp c).1⟩
theorem p_14 : St_14 Inw := by
  intro XI XA XL MI MA ML hI a1
  obtain ⟨P, S, hq, hN, hW, -⟩ := id hI
  obtain ⟨q9, m0, q10, m1, k5, k27, k29, k24, k16, k4, k31, k10⟩ := id hq
  have hP16 : P ≤ 16 := hN.1.1
  have hS16 : S ≤ 16 := hN.1.2
  have hh := now_rng hP16 hW
  unfold ls_14 w_X9_may w_X10_may
  rw [q9, m0, q10, m1, k5, k27, k29, k16, k4, k31]
  rcases ix3 a1 S (by omega) with h | ⟨s, hs, rfl, h1, h2⟩
  · exact hasStep_no h (y0 (isStep_no h (y0 ⟨rfl, hI⟩)))
  refine hasStep_yes h1 h2 (y1 (allowsNow_spec hN hW (by omega) (fun c => y1 ?_) (fun c => y0 ?_)))
  · refine goesX_spec hN hW (by omega) (fun d => z1 ?_) (fun d => z0 ?_)
    · exact isStep_yes h1 h2 (y1 (goesM_spec hP16 hS16 (by omega) hN.2.1 hh (fun _ => z1 ⟨rfl, hI⟩) (fun e => absurd d e)))
    · exact isStep_yes h1 h2 (y1 (goesM_spec hP16 hS16 (by omega) hN.2.1 hh (fun e => absurd e d) (fun _ => z0 (mayNow_spec hP16 (by omega) hN.2.1 hh (fun _ => z1 ⟨rfl, hI⟩) (fun e => absurd c e)))))
  · exact isStep_yes h1 h2 (y1 (goesM_spec hP16 hS16 (by omega) hN.2.1 hh (fun e => absurd e.1 c) (fun _ => z0 (mayNow_spec hP16 (by omega) hN.2.1 hh (fun e => absurd e c) (fun _ => z0 ⟨rfl, hI⟩)))))
