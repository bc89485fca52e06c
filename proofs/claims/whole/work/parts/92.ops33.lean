/-! ===== weights and rounds: what is kept; the two cases ===== -/
def sgf (X : Nat → Int64) : Nat → Int32
  | 0 => 0
  | c + 1 => if sgf X c = 0 then (if X c = 0 then 0 else if X c < 0 then -1 else 1) else sgf X c
def SGN (n : Nat) (X : Nat → Int64) : Int32 := if sgf X n = 0 then 1 else sgf X n
theorem sgf_stay {X : Nat → Int64} {c : Nat} (h : ¬ sgf X c = 0) : ∀ m, sgf X (c + m) = sgf X c
  | 0 => rfl
  | m + 1 => by
    have ih := sgf_stay h m
    show (if sgf X (c + m) = 0 then _ else sgf X (c + m)) = _
    rw [if_neg (by rw [ih]; exact h)]; exact ih
theorem sgf_3 {X : Nat → Int64} : ∀ c, sgf X c = 0 ∨ sgf X c = 1 ∨ sgf X c = -1
  | 0 => Or.inl rfl
  | c + 1 => by
    have ih := sgf_3 (X := X) c
    have nx : sgf X (c + 1) = if sgf X c = 0 then (if X c = 0 then (0 : Int32) else if X c < 0 then -1 else 1) else sgf X c := rfl
    rw [nx]
    split
    · split
      · exact Or.inl rfl
      · split
        · exact Or.inr (Or.inr rfl)
        · exact Or.inr (Or.inl rfl)
    · exact ih
theorem signX {n r : Nat} {cells : Nat → Int64} {post : Int32 → Prop} (hn : n ≤ 16) (hr : r < 16) (h : post (SGN n (fun c => cells (r * 32 + 16 + c)))) : w_X0_signOf (nI n) cells (nI r) post := by
  refine pk_loop (fun f i (_ : Unit) => w_X0_signOf_L2 (nI r) (nI n) cells post (fun _ => post 1) f (nI i)) (fun i _ => sgf (fun c => cells (r * 32 + 16 + c)) i = 0) n 0 () (by omega) rfl ?_ ?_
  · intro f _ hg
    refine tt (nI_le (Nat.le_refl n) (by omega)) ?_
    unfold SGN at h
    rw [if_pos hg] at h; exact h
  · intro f i _ hi hg ih
    refine ff (nI_ge hi (by omega)) ?_
    rw [ix48]
    refine ⟨vp_in_nI (by omega) (by omega), nm ?_⟩
    rw [nI_cl (n := r * 32 + 16 + i) (by omega)]
    have nx : sgf (fun c => cells (r * 32 + 16 + c)) (i + 1) = if cells (r * 32 + 16 + i) = 0 then 0 else if cells (r * 32 + 16 + i) < 0 then -1 else 1 := by
      show (if sgf (fun c => cells (r * 32 + 16 + c)) i = 0 then _ else _) = _
      rw [if_pos hg]
    have fin : ∀ s : Int32, sgf (fun c => cells (r * 32 + 16 + c)) (i + 1) = s → ¬ s = 0 → post s := fun s e q => by
      have e2 : sgf (fun c => cells (r * 32 + 16 + c)) n = s := by
        have := sgf_stay (X := fun c => cells (r * 32 + 16 + c)) (c := i + 1) (by rw [e]; exact q) (n - (i + 1))
        rw [show i + 1 + (n - (i + 1)) = n by omega] at this
        rw [this, e]
      unfold SGN at h
      rw [e2, if_neg q] at h; exact h
    by_cases c : cells (r * 32 + 16 + i) = 0
    · refine tt ((lg_cmp_eq _ _).mpr c) (nm ?_)
      rw [nI_1]
      exact ih () (by rw [nx, if_pos c])
    · refine ff (fun q => c ((lg_cmp_eq _ _).mp q)) ?_
      by_cases d : cells (r * 32 + 16 + i) < 0
      · exact ff (fun q => cmp_ge.mp q d) (fin (-1) (by rw [nx, if_neg c, if_pos d]) (by decide))
      · exact tt (cmp_ge.mpr d) (fin 1 (by rw [nx, if_neg c, if_neg d]) (by decide))
def cZ (out : Nat → Int32) : Nat → Nat
  | 0 => 0
  | r + 1 => cZ out r + if out r = 0 then 1 else 0
theorem cZ_le (out : Nat → Int32) : ∀ r, cZ out r ≤ r
  | 0 => Nat.le_refl 0
  | r + 1 => by
    have := cZ_le out r
    show cZ out r + (if out r = 0 then 1 else 0) ≤ r + 1
    split <;> omega
theorem cZ_mono (out : Nat → Int32) : ∀ m r, cZ out r ≤ cZ out (r + m)
  | 0, r => Nat.le_refl _
  | m + 1, r => by
    have := cZ_mono out m r
    show cZ out r ≤ cZ out (r + m) + (if out (r + m) = 0 then 1 else 0)
    omega
theorem cZ_lt {out : Nat → Int32} {r r' : Nat} (h : r < r') (h0 : out r = 0) : cZ out r < cZ out r' := by
  have h1 := cZ_mono out (r' - (r + 1)) (r + 1)
  rw [show r + 1 + (r' - (r + 1)) = r' by omega] at h1
  have h2 : cZ out (r + 1) = cZ out r + 1 := by
    show cZ out r + (if out r = 0 then 1 else 0) = _
    rw [if_pos h0]
  omega
theorem cZ_surj {out : Nat → Int32} {k : Nat} : ∀ n, k < cZ out n → ∃ r, r < n ∧ out r = 0 ∧ cZ out r = k
  | 0, h => absurd h (by show ¬ k < 0; omega)
  | n + 1, h => by
    have h' : k < cZ out n + (if out n = 0 then 1 else 0) := h
    by_cases c : k < cZ out n
    · obtain ⟨r, h1, h2, h3⟩ := cZ_surj n c
      exact ⟨r, by omega, h2, h3⟩
    · by_cases d : out n = 0
      · rw [if_pos d] at h'
        exact ⟨n, by omega, d, by omega⟩
      · rw [if_neg d] at h'; exact absurd h' (by omega)
theorem cZ_congr {f g : Nat → Int32} : ∀ n, (∀ j, j < n → f j = g j) → cZ f n = cZ g n
  | 0, _ => rfl
  | n + 1, h => by
    show cZ f n + (if f n = 0 then 1 else 0) = cZ g n + (if g n = 0 then 1 else 0)
    rw [cZ_congr n (fun j hj => h j (by omega)), h n (by omega)]
/-- number c of what row r leaves -/
def FV (n : Nat) (cells : Nat → Int64) (r c : Nat) : Int32 := SGN n (fun c => cells (r * 32 + 16 + c)) * (cells (r * 32 + 16 + c)).toInt32
theorem keepX {n : Nat} {cells : Nat → Int64} {found out : Nat → Int32} {post : Int32 → (Nat → Int32) → Prop} (hn : n ≤ 16) (h : ∀ found', (∀ r c, r < n → out r = 0 → c < n → found' (16 * cZ out r + c) = FV n cells r c) → post (nI (cZ out n)) found') : w_X0_keepRest (nI n) 0 cells found out post := by
  refine pk_loop (fun f r (g : Nat → Int32) => w_X0_keepRest_L2 (nI n) cells out post (fun _ s17 s18 => post s17 s18) f (nI r) (nI (cZ out r)) g) (fun r g => ∀ r' c, r' < r → out r' = 0 → c < n → g (16 * cZ out r' + c) = FV n cells r' c) n 0 found (by omega) (fun r' c hr' => absurd hr' (by omega)) ?_ ?_
  · intro f g hg
    exact tt (nI_le (Nat.le_refl n) (by omega)) (h g hg)
  · intro f r g hr hg ih
    have hz := cZ_le out r
    refine ff (nI_ge hr (by omega)) ⟨vp_in_nI (by omega) (by omega), ?_⟩
    rw [nI_cl (n := r) (by omega)]
    by_cases c0 : out r = 0
    · have ez : cZ out (r + 1) = cZ out r + 1 := by
        show cZ out r + (if out r = 0 then 1 else 0) = _
        rw [if_pos c0]
      refine nt c0 (signX hn (by omega) ?_)
      refine pk_loop (fun f c (g' : Nat → Int32) => w_X0_keepRest_L27 (nI r) (SGN n (fun c => cells (r * 32 + 16 + c))) (nI n) (nI (cZ out r)) cells out post _ f (nI c) g') (fun c g' => (∀ c', c' < c → g' (16 * cZ out r + c') = FV n cells r c') ∧ ∀ j, j < 16 * cZ out r → g' j = g j) n 0 g (by omega) ⟨fun c' hc' => absurd hc' (by omega), fun _ _ => rfl⟩ ?_ ?_
      · intro f1 g1 hg1
        refine tt (nI_le (Nat.le_refl n) (by omega)) (nm (nm ?_))
        have e := ih g1 (fun r' c hr' h0 hc => by
          by_cases e : r' = r
          · rw [e]; exact hg1.1 c hc
          · have := cZ_lt (show r' < r by omega) h0
            rw [hg1.2 _ (by omega)]; exact hg r' c (by omega) h0 hc)
        rw [ez] at e
        rw [nI_1, nI_1]; exact e
      · intro f1 c g1 hc hg1 ih1
        refine ff (nI_ge hc (by omega)) ?_
        rw [ix48, ixC]
        refine ⟨vp_in_nI (by omega) (by omega), vp_in_nI (by omega) (by omega), nm ?_⟩
        rw [nI_1 c, nI_cl (n := r * 32 + 16 + c) (by omega), nI_cl (n := 16 * cZ out r + c) (by omega)]
        refine ih1 _ ⟨fun c' hc' => ?_, fun j hj => by rw [pk_un (by omega)]; exact hg1.2 j hj⟩
        by_cases e : c' = c
        · rw [e, pk_us]; rfl
        · rw [pk_un (by omega)]; exact hg1.1 c' (by omega)
    · have ez : cZ out (r + 1) = cZ out r := by
        show cZ out r + (if out r = 0 then 1 else 0) = _
        rw [if_neg c0]; rfl
      refine nf c0 (nm ?_)
      have e := ih g (fun r' c hr' h0 hc => by
        by_cases e : r' = r
        · rw [e] at h0; exact absurd h0 c0
        · exact hg r' c (by omega) h0 hc)
      rw [ez] at e
      rw [nI_1]; exact e
theorem neg_i (x : Int64) : (-x).toInt32 = -(x.toInt32) := Int64.toInt32_neg x
theorem FV_M {n r c : Nat} {cells : Nat → Int64} (hc : c < n) : FV n cells r c = if 0 ≤ sgf (fun c => cells (r * 32 + 16 + c)) (c + 1) then (cells (r * 32 + 16 + c)).toInt32 else (-(cells (r * 32 + 16 + c))).toInt32 := by
  unfold FV
  by_cases z : cells (r * 32 + 16 + c) = 0
  · rw [z, show (0 : Int64).toInt32 = 0 from by decide, show (-(0 : Int64)).toInt32 = 0 from by decide, Int32.mul_zero]
    split <;> rfl
  · have h1 : ¬ sgf (fun c => cells (r * 32 + 16 + c)) (c + 1) = 0 := by
      show ¬ (if sgf (fun c => cells (r * 32 + 16 + c)) c = 0 then (if cells (r * 32 + 16 + c) = 0 then (0 : Int32) else if cells (r * 32 + 16 + c) < 0 then -1 else 1) else sgf (fun c => cells (r * 32 + 16 + c)) c) = 0
      by_cases q : sgf (fun c => cells (r * 32 + 16 + c)) c = 0
      · rw [if_pos q, if_neg z]
        split <;> decide
      · rw [if_neg q]; exact q
    have h2 := sgf_stay h1 (n - (c + 1))
    rw [show c + 1 + (n - (c + 1)) = n by omega] at h2
    have h3 : SGN n (fun c => cells (r * 32 + 16 + c)) = sgf (fun c => cells (r * 32 + 16 + c)) (c + 1) := by
      unfold SGN
      rw [h2, if_neg h1]
    rw [h3]
    rcases sgf_3 (X := fun c => cells (r * 32 + 16 + c)) (c + 1) with e | e | e
    · exact absurd e h1
    · rw [e, if_pos (by decide), Int32.one_mul]
    · rw [e, if_neg (by decide), neg_i, Int32.neg_mul, Int32.one_mul]
theorem gatherM {n : Nat} {cells : Nat → Int64} {found out : Nat → Int32} {post : Int32 → (Nat → Int32) → Prop} (hn : n ≤ 16) (h : ∀ found', (∀ r c, r < n → out r = 0 → c < n → found' (16 * cZ out r + c) = FV n cells r c) → post (nI (cZ out n)) found') : w_X10_gather 256 out cells found (nI n) post := by
  refine pk_loop (fun f r (g : Nat → Int32) => w_X10_gather_L5 256 (nI n) out cells post (fun v38 _ s40 => post v38 s40) f (nI (cZ out r)) (nI r) g) (fun r g => ∀ r' c, r' < r → out r' = 0 → c < n → g (16 * cZ out r' + c) = FV n cells r' c) n 0 found (by omega) (fun r' c hr' => absurd hr' (by omega)) ?_ ?_
  · intro f g hg
    exact tt (nI_le (Nat.le_refl n) (by omega)) (h g hg)
  · intro f r g hr hg ih
    have hz := cZ_le out r
    refine ff (nI_ge hr (by omega)) ⟨vp_in_nI (by omega) (by omega), ?_⟩
    rw [nI_cl (n := r) (by omega)]
    by_cases c0 : out r = 0
    · have ez : cZ out (r + 1) = cZ out r + 1 := by
        show cZ out r + (if out r = 0 then 1 else 0) = _
        rw [if_pos c0]
      refine nt c0 ?_
      refine pk_loop (fun f c (g' : Nat → Int32) => w_X10_gather_L27 256 (nI n) (nI (cZ out r)) (nI r) out cells post _ f (sgf (fun c => cells (r * 32 + 16 + c)) c) (nI c) g') (fun c g' => (∀ c', c' < c → c' < n → g' (16 * cZ out r + c') = FV n cells r c') ∧ ∀ j, j < 16 * cZ out r → g' j = g j) 16 0 g (by omega) ⟨fun c' hc' => absurd hc' (by omega), fun _ _ => rfl⟩ ?_ ?_
      · intro f1 g1 hg1
        refine tt (nI_le (b := 16) (Nat.le_refl 16) (by omega)) (nm (nm ?_))
        have e := ih g1 (fun r' c hr' h0 hc => by
          by_cases e : r' = r
          · rw [e]; exact hg1.1 c (by omega) hc
          · have := cZ_lt (show r' < r by omega) h0
            rw [hg1.2 _ (by omega)]; exact hg r' c (by omega) h0 hc)
        rw [ez] at e
        rw [nI_1, nI_1]; exact e
      · intro f1 c g1 hc hg1 ih1
        refine ff (nI_ge (b := 16) hc (by omega)) ?_
        rw [ix48', ixA]
        have hin : vp_in (nI (16 * cZ out r + c)) 256 := vp_in_nI (by omega) (by omega)
        refine ⟨vp_in_nI (by omega) (by omega), nm ?_⟩
        rw [nI_cl (n := r * 32 + 16 + c) (by omega), nI_cl (n := 16 * cZ out r + c) (by omega)]
        have nxt : ∀ v, v = (if 0 ≤ sgf (fun c => cells (r * 32 + 16 + c)) (c + 1) then (cells (r * 32 + 16 + c)).toInt32 else (-(cells (r * 32 + 16 + c))).toInt32) → ((∀ c', c' < c + 1 → c' < n → upd g1 (16 * cZ out r + c) v (16 * cZ out r + c') = FV n cells r c') ∧ ∀ j, j < 16 * cZ out r → upd g1 (16 * cZ out r + c) v j = g j) := fun v hv => by
          refine ⟨fun c' hc' hcn => ?_, fun j hj => by rw [pk_un (by omega)]; exact hg1.2 j hj⟩
          by_cases e : c' = c
          · rw [e, pk_us, hv, ← FV_M (n := n) (by omega)]
          · rw [pk_un (by omega)]; exact hg1.1 c' (by omega) hcn
        have nx : sgf (fun c => cells (r * 32 + 16 + c)) (c + 1) = if sgf (fun c => cells (r * 32 + 16 + c)) c = 0 then (if cells (r * 32 + 16 + c) = 0 then (0 : Int32) else if cells (r * 32 + 16 + c) < 0 then -1 else 1) else sgf (fun c => cells (r * 32 + 16 + c)) c := rfl
        have go : ∀ v, v = (if 0 ≤ sgf (fun c => cells (r * 32 + 16 + c)) (c + 1) then (cells (r * 32 + 16 + c)).toInt32 else (-(cells (r * 32 + 16 + c))).toInt32) → ∀ s, s = sgf (fun c => cells (r * 32 + 16 + c)) (c + 1) → (vp_in (nI (16 * cZ out r + c)) 256 ∧ ∀ x13 : Int32, x13 = nI c + (1 : Int32) → w_X10_gather_L27 256 (nI n) (nI (cZ out r)) (nI r) out cells post (fun v32 v33 s34 => ∀ x35 : Int32, x35 = nI (cZ out r) + (1 : Int32) → ∀ x36 : Int32, x36 = nI r + (1 : Int32) → w_X10_gather_L5 256 (nI n) out cells post (fun v38 _ s40 => post v38 s40) f x35 x36 s34) f1 s x13 (upd g1 (16 * cZ out r + c) v)) := fun v hv s hs => by
          refine ⟨hin, nm ?_⟩
          rw [nI_1 c, hs]
          exact ih1 _ (nxt v hv)
        by_cases q : sgf (fun c => cells (r * 32 + 16 + c)) c = 0
        · rw [if_pos q] at nx
          refine nt q ?_
          by_cases z : cells (r * 32 + 16 + c) = 0
          · rw [if_pos z] at nx
            refine tt ((lg_cmp_eq _ _).mpr z) (tt (by rw [q]; decide) (go _ (by rw [nx, if_pos (by decide)]) _ (by rw [nx, q])))
          · rw [if_neg z] at nx
            refine ff (fun w => z ((lg_cmp_eq _ _).mp w)) ?_
            by_cases d : cells (r * 32 + 16 + c) < 0
            · rw [if_pos d] at nx
              exact ff (fun w => cmp_ge.mp w d) (ff (by decide) (go _ (by rw [nx, if_neg (by decide)]) _ (by rw [nx])))
            · rw [if_neg d] at nx
              exact tt (cmp_ge.mpr d) (tt (by decide) (go _ (by rw [nx, if_pos (by decide)]) _ (by rw [nx])))
        · rw [if_neg q] at nx
          refine nf q ?_
          by_cases d : 0 ≤ sgf (fun c => cells (r * 32 + 16 + c)) c
          · exact tt d (go _ (by rw [nx, if_pos d]) _ nx.symm)
          · exact ff d (go _ (by rw [nx, if_neg d]) _ nx.symm)
    · have ez : cZ out (r + 1) = cZ out r := by
        show cZ out r + (if out r = 0 then 1 else 0) = _
        rw [if_neg c0]; rfl
      refine nf c0 (nm ?_)
      have e := ih g (fun r' c hr' h0 hc => by
        by_cases e : r' = r
        · rw [e] at h0; exact absurd h0 c0
        · exact hg r' c (by omega) h0 hc)
      rw [ez] at e
      rw [nI_1]; exact e

theorem y1z {A B : Prop} (h : A) : ((1 : Int32) = 0 → B) ∧ (¬ (1 : Int32) = 0 → A) := z1 h
theorem bal_of {n : Nat} {cells rows : Nat → Int64} {out isOut f1 f2 : Nat → Int32} (hn : n ≤ 16) (hm : mB n cells out rows isOut) (h1 : ∀ r c, r < n → out r = 0 → c < n → f1 (16 * cZ out r + c) = FV n cells r c) (h2 : ∀ r c, r < n → isOut r = 0 → c < n → f2 (16 * cZ isOut r + c) = FV n rows r c) : cBal n (nI (cZ out n)) f1 (nI (cZ isOut n)) f2 := by
  have ez : ∀ r, r ≤ n → cZ out r = cZ isOut r := fun r hr => cZ_congr r (fun j hj => hm.1 j (by omega))
  refine ⟨cZ out n, by have := cZ_le out n; omega, rfl, by rw [ez n (Nat.le_refl n)], fun k p hk hp => ?_⟩
  obtain ⟨r, hr, h0, er⟩ := cZ_surj n hk
  have e1 := h1 r p hr h0 hp
  have e2 := h2 r p hr (by rw [← hm.1 r hr]; exact h0) hp
  rw [← ez r (by omega), er] at e2
  rw [er] at e1
  rw [e1, e2]
  have hX : ∀ c, c < n → cells (r * 32 + 16 + c) = rows (r * 32 + 16 + c) := fun c hc => by
    have := hm.2 r (16 + c) hr (by omega)
    rw [show r * 32 + (16 + c) = r * 32 + 16 + c by omega] at this
    exact this
  have hs : ∀ c, c ≤ n → sgf (fun c => cells (r * 32 + 16 + c)) c = sgf (fun c => rows (r * 32 + 16 + c)) c := fun c => by
    induction c with
    | zero => exact fun _ => rfl
    | succ c ih =>
      intro hc
      show (if sgf (fun c => cells (r * 32 + 16 + c)) c = 0 then (if cells (r * 32 + 16 + c) = 0 then (0 : Int32) else if cells (r * 32 + 16 + c) < 0 then -1 else 1) else sgf (fun c => cells (r * 32 + 16 + c)) c) = (if sgf (fun c => rows (r * 32 + 16 + c)) c = 0 then (if rows (r * 32 + 16 + c) = 0 then (0 : Int32) else if rows (r * 32 + 16 + c) < 0 then -1 else 1) else sgf (fun c => rows (r * 32 + 16 + c)) c)
      rw [ih (by omega), hX c (by omega)]
  unfold FV SGN
  rw [hs n (Nat.le_refl n), hX p hp]
/-- both sides from the laid rows on -/
theorem solve_core {n C : Nat} {fl pl st : Int32} {fd out pt tk : Nat → Int32} {cells0 : Nat → Int64} {post : Int32 → Int32 → Int32 → (Nat → Int64) → (Nat → Int32) → (Nat → Int32) → Prop} (hn : n ≤ 16) (hC : C ≤ 16) (h1 : ∀ i, i < 256 → ∃ v : Nat, v ≤ 9 ∧ tk i = nI v) (h2 : ∀ i, i < 256 → ∃ v : Nat, v ≤ 9 ∧ pt i = nI v) (ho : ∀ r, r < 16 → out r = 0) (hz : ∀ j, j < 512 → cells0 j = 0)
    (k1 : ∀ sz cells' found' out', (∀ {isOut : Nat → Int32} {rows : Nat → Int64} {wts : Nat → Int32} {postM : Int32 → Int32 → (Nat → Int32) → (Nat → Int64) → (Nat → Int32) → Prop}, (∀ i' r' w', cBal n sz found' sz w' → postM sz sz i' r' w') → w_X10_layRows isOut pt rows tk (nI n) (nI C) fl (fun y1 y2 => w_X10_reduce y1 y2 (nI n) (nI C) (fun r3 y4 y5 => (¬ r3 = 0 → w_X10_gather 256 y4 y5 wts (nI n) (fun r8 y9 => postM r8 r8 y4 y5 y9)) ∧ (r3 = 0 → postM (-2000000004) 0 y4 y5 wts)))) → post 1 (nI n) sz cells' found' out')
    (k0 : ∀ cells' out', (∀ {isOut : Nat → Int32} {rows : Nat → Int64} {wts : Nat → Int32} {postM : Int32 → Int32 → (Nat → Int32) → (Nat → Int64) → (Nat → Int32) → Prop}, (∀ i' r', postM (-2000000004) 0 i' r' wts) → w_X10_layRows isOut pt rows tk (nI n) (nI C) fl (fun y1 y2 => w_X10_reduce y1 y2 (nI n) (nI C) (fun r3 y4 y5 => (¬ r3 = 0 → w_X10_gather 256 y4 y5 wts (nI n) (fun r8 y9 => postM r8 r8 y4 y5 y9)) ∧ (r3 = 0 → postM (-2000000004) 0 y4 y5 wts)))) → post 0 (nI n) 0 cells' fd out') :
    ∃ f : Nat, w_X0_solve_L59 fl (nI C) (nI n) 0 pl st fd out pt tk post (fun _ s23 => ∃ f : Nat, w_X0_solve_L147 (nI C) (nI n) 0 pl st fd pt tk post (fun _ s34 s35 => w_X0_keepRest (nI n) 0 s34 fd s35 (fun y36 y37 => post 1 (nI n) y36 s34 y37 s35)) f 0 s23 out) f 0 cells0 := by
  refine layX hn hC hz (fun z cells1 e1 => ?_)
  refine pk_loop (σ := (Nat → Int64) × (Nat → Int32)) (fun f c g => w_X0_solve_L147 (nI C) (nI n) 0 pl st fd pt tk post (fun _ s34 s35 => w_X0_keepRest (nI n) 0 s34 fd s35 (fun y36 y37 => post 1 (nI n) y36 s34 y37 s35)) f (nI c) g.1 g.2) (fun c g => xB n g.1 g.2 ∧ ∀ (postM : Int32 → (Nat → Int32) → (Nat → Int64) → Prop) (K : Int32 → (Nat → Int32) → (Nat → Int64) → Prop) (n' : Nat), (∀ isOut' rows', mB n g.1 g.2 rows' isOut' → w_X10_reduce_L2 (nI n) (nI C) postM K n' (nI c) isOut' rows') → ∀ {isOut : Nat → Int32} {rows : Nat → Int64}, mB n cells1 out rows isOut → ∃ f : Nat, w_X10_reduce_L2 (nI n) (nI C) postM K f 0 isOut rows) C 0 (cells1, out) (by omega) ⟨⟨fun r hr => Or.inl (ho r (by omega)), fun r c hr hc => by show B9 (cells1 _); rw [e1 r c hr hc]; exact LV_B hC (by omega) h1 h2⟩, fun postM K n' hh isOut rows hm => ⟨n', hh _ _ hm⟩⟩ ?_ ?_
  · intro f g hg
    refine tt (nI_le (Nat.le_refl C) (by omega)) (keepX hn (fun found' hf => k1 _ _ _ _ (fun {isOut rows wts postM} hp => layM hn hC (fun isOut' rows' i1 i2 => ?_))))
    have hm0 : mB n cells1 out rows' isOut' := ⟨fun r hr => by rw [ho r (by omega), i1 r (by omega)], fun r c hr hc => by rw [e1 r c hr hc, i2 r c hr hc]⟩
    refine hg.2 _ _ 1 (fun isOut2 rows2 hm2 => tt (nI_le (Nat.le_refl C) (by omega)) (y1 (gatherM hn (fun w' hw => ?_)))) hm0
    have hb := bal_of hn hm2 hf hw
    have ez : cZ isOut2 n = cZ g.2 n := cZ_congr n (fun j hj => (hm2.1 j hj).symm)
    rw [ez] at hb ⊢
    exact hp _ _ _ hb
  · intro f c g hc hg ih
    obtain ⟨gB, gQ⟩ := hg
    refine ff (nI_ge hc (by omega)) (clear_spec hn (by omega) gB (fun cells' out' hx' hM => y1 (nm ?_)) (fun cells' out' hM => y0 ?_))
    · rw [nI_1]
      exact ih (cells', out') ⟨hx', fun postM K n' hh => gQ postM K (n' + 1) (fun isOut' rows' hm' => hM _ _ _ _ (nI_ge hc (by omega)) hm' hh)⟩
    · refine k0 _ _ (fun {isOut rows wts postM} hp => layM hn hC (fun isOut' rows' i1 i2 => ?_))
      have hm0 : mB n cells1 out rows' isOut' := ⟨fun r hr => by rw [ho r (by omega), i1 r (by omega)], fun r c hr hc => by rw [e1 r c hr hc, i2 r c hr hc]⟩
      exact gQ _ _ 1 (fun isOut2 rows2 hm2 => hM _ _ _ 0 (nI_ge hc (by omega)) hm2 (fun i' r' => y0 (hp _ _))) hm0
theorem p_42 : St_42 Inw := by
  intro XI XA XL MI MA ML hI
  obtain ⟨P, S, hq, hN, hW, hPa, hH, hg, hF, hT, hb1, hb2, hs⟩ := id hI
  obtain ⟨q9, m0, q10, m1, k5, k27, k29, k24, k16, k4, k31, k10⟩ := id hq
  have hP16 : P ≤ 16 := hN.1.1
  have hS16 : S ≤ 16 := hN.1.2
  unfold ls_42 w_X9_weights w_X0_solve w_X10_weights
  rw [q9, m0, q10, m1, k29, k24]
  refine ff (by decide) (ff (by decide) (fill_spec (by omega) (fun o o1 _ => fillL_spec (by omega) (fun z z1 => ?_))))
  refine solve_core hP16 hS16 hN.2.2.2.1 hN.2.2.2.2.1 o1 z1 (fun sz cells' found' out' hM => y1z (hM (postM := fun r7 y8 y9 y10 y11 => sz = r7 ∧ Inw (va_up (va_up XI 12 (nI P)) 13 sz) (va_up (va_up XA 21 found') 22 out') (va_up XL 2 cells') (va_up MI 12 y8) (va_up (va_up MA 14 y9) 33 y11) (va_up ML 0 y10)) (fun i' r' w' hb => ⟨rfl, ?_⟩))) (fun cells' out' hM => z0 (hM (postM := fun r7 y8 y9 y10 y11 => (-2000000004 : Int32) = r7 ∧ Inw (va_up (va_up XI 12 (nI P)) 13 0) (va_up (va_up XA 21 (XA 21)) 22 out') (va_up XL 2 cells') (va_up MI 12 y8) (va_up (va_up MA 14 y9) 33 y11) (va_up ML 0 y10)) (fun i' r' => ⟨rfl, ?_⟩)))
  · exact ⟨P, S, hq, hN, hW, hPa, hH, hg, hF, hT, hb, hb2, hs⟩
  · exact ⟨P, S, hq, hN, hW, hPa, hH, hg, hF, hT, cBal_0, hb2, hs⟩
theorem p_44 : St_44 Inw := by
  intro XI XA XL MI MA ML hI
  obtain ⟨P, S, hq, hN, hW, hPa, hH, hg, hF, hT, hb1, hb2, hs⟩ := id hI
  obtain ⟨q9, m0, q10, m1, k5, k27, k29, k24, k16, k4, k31, k10⟩ := id hq
  have hP16 : P ≤ 16 := hN.1.1
  have hS16 : S ≤ 16 := hN.1.2
  unfold ls_44 w_X9_rounds w_X0_solve w_X10_rounds
  rw [q9, m0, q10, m1, k29, k24]
  refine tt (by decide) (tt (by decide) (fill_spec (by omega) (fun o o1 _ => fillL_spec (by omega) (fun z z1 => ?_))))
  refine solve_core hS16 hP16 hN.2.2.2.1 hN.2.2.2.2.1 o1 z1 (fun sz cells' found' out' hM => y1z (hM (postM := fun r7 y8 y9 y11 y10 => sz = r7 ∧ Inw (va_up (va_up XI 14 (nI S)) 15 sz) (va_up (va_up XA 23 found') 24 out') (va_up XL 3 cells') (va_up MI 13 y8) (va_up (va_up MA 14 y9) 25 y10) (va_up ML 0 y11)) (fun i' r' w' hb => ⟨rfl, ?_⟩))) (fun cells' out' hM => z0 (hM (postM := fun r7 y8 y9 y11 y10 => (-2000000004 : Int32) = r7 ∧ Inw (va_up (va_up XI 14 (nI S)) 15 0) (va_up (va_up XA 23 (XA 23)) 24 out') (va_up XL 3 cells') (va_up MI 13 y8) (va_up (va_up MA 14 y9) 25 y10) (va_up ML 0 y11)) (fun i' r' => ⟨rfl, ?_⟩)))
  · exact ⟨P, S, hq, hN, hW, hPa, hH, hg, hF, hT, hb1, hb, hs⟩
  · exact ⟨P, S, hq, hN, hW, hPa, hH, hg, hF, hT, hb1, cBal_0, hs⟩
