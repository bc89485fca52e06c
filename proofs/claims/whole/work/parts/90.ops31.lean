/-! ===== weights and rounds: a column cleared, on both sides ===== -/
def FWr (n : Nat) (A : Nat → Prop) (r : Int32) : Prop := (∃ i, i < n ∧ A i ∧ (∀ j, j < i → ¬ A j) ∧ r = nI i) ∨ ((∀ i, i < n → ¬ A i) ∧ r = -1)
theorem FWr_uniq {n : Nat} {A : Nat → Prop} {r r' : Int32} (h : FWr n A r) (h' : FWr n A r') : r = r' := by
  rcases h with ⟨i, i1, i2, i3, i4⟩ | ⟨i1, i2⟩
  · rcases h' with ⟨j, j1, j2, j3, j4⟩ | ⟨j1, j2⟩
    · rcases Nat.lt_trichotomy i j with c | c | c
      · exact absurd i2 (j3 i c)
      · rw [i4, j4, c]
      · exact absurd j2 (i3 j c)
    · exact absurd i2 (j1 i i1)
  · rcases h' with ⟨j, j1, j2, j3, j4⟩ | ⟨j1, j2⟩
    · exact absurd j2 (i1 j j1)
    · rw [i2, j2]
theorem firstX {n col : Nat} {cells : Nat → Int64} {out : Nat → Int32} {post : Int32 → Prop} (hn : n ≤ 16) (hcol : col < 32) (h : ∀ r, FWr n (fun r => out r = 0 ∧ ¬ cells (r * 32 + col) = 0) r → post r) : w_X0_firstWith (nI n) cells out (nI col) post := by
  refine pk_loop (fun f i (_ : Unit) => w_X0_firstWith_L2 (nI col) (nI n) cells out post (fun _ => post (-1)) f (nI i)) (fun i _ => ∀ j, j < i → ¬ (out j = 0 ∧ ¬ cells (j * 32 + col) = 0)) n 0 () (by omega) (fun j hj => absurd hj (by omega)) ?_ ?_
  · intro f _ hg
    exact tt (nI_le (Nat.le_refl n) (by omega)) (h _ (Or.inr ⟨hg, rfl⟩))
  · intro f i _ hi hg ih
    refine ff (nI_ge hi (by omega)) ⟨vp_in_nI (by omega) (by omega), ?_⟩
    rw [nI_cl (n := i) (by omega), ix32]
    have nxt : ¬ (out i = 0 ∧ ¬ cells (i * 32 + col) = 0) → ∀ j, j < i + 1 → ¬ (out j = 0 ∧ ¬ cells (j * 32 + col) = 0) := fun q j hj => by
      by_cases e : j = i
      · rw [e]; exact q
      · exact hg j (by omega)
    by_cases c : out i = 0
    · refine nt c ⟨vp_in_nI (by omega) (by omega), ?_⟩
      rw [nI_cl (n := i * 32 + col) (by omega)]
      by_cases d : cells (i * 32 + col) = 0
      · refine tt ((lg_cmp_eq _ _).mpr d) (nm ?_)
        rw [nI_1]; exact ih () (nxt (fun w => w.2 d))
      · exact ff (fun q => d ((lg_cmp_eq _ _).mp q)) (h _ (Or.inl ⟨i, hi, ⟨c, d⟩, hg, rfl⟩))
    · refine nf c (nm ?_)
      rw [nI_1]; exact ih () (nxt (fun w => c w.1))
theorem firstM {n col : Nat} {cells : Nat → Int64} {out : Nat → Int32} {post : Int32 → Prop} (hn : n ≤ 16) (hcol : col < 32) (h : ∀ r, FWr n (fun r => out r = 0 ∧ ¬ cells (r * 32 + col) = 0) r → post r) : w_X10_firstWith out cells (nI n) (nI col) post := by
  refine pk_loop (fun f i (_ : Unit) => w_X10_firstWith_L2 (nI n) (nI col) out cells post (fun _ => post (-1)) f (nI i)) (fun i _ => ∀ j, j < i → ¬ (out j = 0 ∧ ¬ cells (j * 32 + col) = 0)) n 0 () (by omega) (fun j hj => absurd hj (by omega)) ?_ ?_
  · intro f _ hg
    exact tt (nI_le (Nat.le_refl n) (by omega)) (h _ (Or.inr ⟨hg, rfl⟩))
  · intro f i _ hi hg ih
    refine ff (nI_ge hi (by omega)) ⟨vp_in_nI (by omega) (by omega), ?_⟩
    rw [nI_cl (n := i) (by omega), ix32']
    have nxt : ¬ (out i = 0 ∧ ¬ cells (i * 32 + col) = 0) → ∀ j, j < i + 1 → ¬ (out j = 0 ∧ ¬ cells (j * 32 + col) = 0) := fun q j hj => by
      by_cases e : j = i
      · rw [e]; exact q
      · exact hg j (by omega)
    by_cases c : out i = 0
    · refine nt c ⟨vp_in_nI (by omega) (by omega), ?_⟩
      rw [nI_cl (n := i * 32 + col) (by omega)]
      by_cases d : cells (i * 32 + col) = 0
      · refine tt ((lg_cmp_eq _ _).mpr d) (nm ?_)
        rw [nI_1]; exact ih () (nxt (fun w => w.2 d))
      · exact ff (fun q => d ((lg_cmp_eq _ _).mp q)) (h _ (Or.inl ⟨i, hi, ⟨c, d⟩, hg, rfl⟩))
    · refine nf c (nm ?_)
      rw [nI_1]; exact ih () (nxt (fun w => c w.1))
def xB (n : Nat) (cells : Nat → Int64) (out : Nat → Int32) : Prop := (∀ r, r < n → out r = 0 ∨ out r = 1) ∧ ∀ r c, r < n → c < 32 → B9 (cells (r * 32 + c))
def mB (n : Nat) (cells : Nat → Int64) (out : Nat → Int32) (rows : Nat → Int64) (isOut : Nat → Int32) : Prop := (∀ r, r < n → out r = isOut r) ∧ ∀ r c, r < n → c < 32 → cells (r * 32 + c) = rows (r * 32 + c)
theorem FWr_congr {n : Nat} {A B : Nat → Prop} {r : Int32} (h : ∀ i, i < n → (A i ↔ B i)) (q : FWr n A r) : FWr n B r := by
  rcases q with ⟨i, i1, i2, i3, i4⟩ | ⟨i1, i2⟩
  · exact Or.inl ⟨i, i1, (h i i1).mp i2, fun j hj w => i3 j hj ((h j (by omega)).mpr w), i4⟩
  · exact Or.inr ⟨fun i hi w => i1 i hi ((h i hi).mpr w), i2⟩
theorem clear_spec {n col : Nat} {cells : Nat → Int64} {out : Nat → Int32} {post : Int32 → (Nat → Int64) → (Nat → Int32) → Prop} (hn : n ≤ 16) (hcol : col < 32) (hx0 : xB n cells out)
    (h1 : ∀ cells' out', xB n cells' out' → (∀ (C : Int32) (postM : Int32 → (Nat → Int32) → (Nat → Int64) → Prop) (K : Int32 → (Nat → Int32) → (Nat → Int64) → Prop) (n' : Nat) {isOut : Nat → Int32} {rows : Nat → Int64}, ¬ C ≤ nI col → mB n cells out rows isOut → (∀ isOut' rows', mB n cells' out' rows' isOut' → w_X10_reduce_L2 (nI n) C postM K n' (nI (col + 1)) isOut' rows') → w_X10_reduce_L2 (nI n) C postM K (n' + 1) (nI col) isOut rows) → post 1 cells' out')
    (h0 : ∀ cells' out', (∀ (C : Int32) (postM : Int32 → (Nat → Int32) → (Nat → Int64) → Prop) (K : Int32 → (Nat → Int32) → (Nat → Int64) → Prop) (n' : Nat) {isOut : Nat → Int32} {rows : Nat → Int64}, ¬ C ≤ nI col → mB n cells out rows isOut → (∀ isOut' rows', postM 0 isOut' rows') → w_X10_reduce_L2 (nI n) C postM K (n' + 1) (nI col) isOut rows) → post 0 cells' out') : w_X0_clearColumn (nI n) cells out (nI col) post := by
  refine firstX hn hcol (fun r hr => ?_)
  have same : ∀ {isOut : Nat → Int32} {rows : Nat → Int64}, mB n cells out rows isOut → ∀ r', FWr n (fun r => isOut r = 0 ∧ ¬ rows (r * 32 + col) = 0) r' → r' = r := fun hm r' hr' => by
    refine FWr_uniq hr' (FWr_congr (fun i hi => ?_) hr)
    rw [hm.1 i hi, hm.2 i col hi hcol]
  rcases id hr with ⟨t, ht, at_, -, er⟩ | ⟨-, er⟩
  · have hint : vp_in (nI t) 16 := vp_in_nI (by omega) (by omega)
    have et : (nI t).toNatClampNeg = t := nI_cl (by omega)
    rw [er]
    refine tt (nI_pos' (by omega)) ⟨hint, ?_⟩
    rw [et]
    have hout : ∀ r, r < n → upd out t 1 r = 0 ∨ upd out t 1 r = 1 := fun r hr => by
      by_cases e : r = t
      · rw [e, pk_us]; exact Or.inr rfl
      · rw [pk_un e]; exact hx0.1 r hr
    -- the reference up to its rows
    have mgo : ∀ {C : Int32} {postM : Int32 → (Nat → Int32) → (Nat → Int64) → Prop} {K : Int32 → (Nat → Int32) → (Nat → Int64) → Prop} {n' : Nat} {isOut : Nat → Int32} {rows : Nat → Int64}, ¬ C ≤ nI col → mB n cells out rows isOut → (mB n cells (upd out t 1) rows (upd isOut t 1) → ∃ f : Nat, w_X10_reduce_L31 (nI n) C (nI col) (nI t) (upd isOut t 1) postM (fun _ s22 => ∀ x23 : Int32, x23 = nI col + (1 : Int32) → w_X10_reduce_L2 (nI n) C postM K n' x23 (upd isOut t 1) s22) f 0 rows) → w_X10_reduce_L2 (nI n) C postM K (n' + 1) (nI col) isOut rows := by
      intro C postM K n' isOut rows hC hm hh
      refine ff hC (firstM hn hcol (fun r' hr' => ?_))
      rw [same hm r' hr', er]
      refine ff (nI_pos (by omega)) ⟨hint, ?_⟩
      rw [et, nar1]
      refine hh ⟨fun r hr => ?_, hm.2⟩
      by_cases e : r = t
      · rw [e, pk_us, pk_us]
      · rw [pk_un e, pk_un e]; exact hm.1 r hr
    refine pk_loop (fun f i (g : Nat → Int64) => w_X0_clearColumn_L21 (nI col) (nI t) (nI n) (upd out t 1) post (fun _ s19 => post 1 s19 (upd out t 1)) f (nI i) g) (fun i g => (∀ r c, r < n → c < 32 → B9 (g (r * 32 + c))) ∧ ∀ (C : Int32) (isOut : Nat → Int32) (postM : Int32 → (Nat → Int32) → (Nat → Int64) → Prop) (K : Int32 → (Nat → Int64) → Prop) (n' : Nat), (∀ rows', mB n g (upd out t 1) rows' isOut → w_X10_reduce_L31 (nI n) C (nI col) (nI t) isOut postM K n' (nI i) rows') → ∀ {rows : Nat → Int64}, mB n cells (upd out t 1) rows isOut → ∃ f : Nat, w_X10_reduce_L31 (nI n) C (nI col) (nI t) isOut postM K f 0 rows) n 0 cells (by omega) ⟨hx0.2, fun C isOut postM K n' hh rows hm => ⟨n', hh _ hm⟩⟩ ?_ ?_
    · intro f g hg
      refine tt (nI_le (Nat.le_refl n) (by omega)) (h1 g _ ⟨hout, hg.1⟩ (fun C postM K n' isOut rows hC hm hp => mgo hC hm (fun hm2 => ?_)))
      refine hg.2 C (upd isOut t 1) postM _ 1 (fun rows' hm' => tt (nI_le (Nat.le_refl n) (by omega)) (nm ?_)) hm2
      rw [nI_1]; exact hp _ _ hm'
    · intro f i g hi hg ih
      obtain ⟨gB, gQ⟩ := hg
      have hini : vp_in (nI i) 16 := vp_in_nI (by omega) (by omega)
      have hinc : vp_in (nI (i * 32 + col)) 512 := vp_in_nI (by omega) (by omega)
      refine ff (nI_ge hi (by omega)) ⟨hini, ?_⟩
      rw [nI_cl (n := i) (by omega), ix32]
      -- the reference at row i
      have mrow : ∀ {C : Int32} {isOut : Nat → Int32} {postM : Int32 → (Nat → Int32) → (Nat → Int64) → Prop} {K : Int32 → (Nat → Int64) → Prop} {n' : Nat} {rows : Nat → Int64}, ((¬ isOut i = 0 → ∀ x11 : Int32, x11 = nI i + 1 → w_X10_reduce_L31 (nI n) C (nI col) (nI t) isOut postM K n' x11 rows) ∧ (isOut i = 0 → vp_in (nI (i * 32 + col)) 512 ∧ (lg_cmp (rows (i * 32 + col)) 0 = 0 → ∀ x14 : Int32, x14 = nI i + 1 → w_X10_reduce_L31 (nI n) C (nI col) (nI t) isOut postM K n' x14 rows) ∧ (¬ lg_cmp (rows (i * 32 + col)) 0 = 0 → w_X10_lessened rows (nI i) (nI t) (nI col) (fun r15 y16 => (¬ r15 = 0 → ∀ x19 : Int32, x19 = nI i + 1 → w_X10_reduce_L31 (nI n) C (nI col) (nI t) isOut postM K n' x19 y16) ∧ (r15 = 0 → postM 0 isOut y16))))) → w_X10_reduce_L31 (nI n) C (nI col) (nI t) isOut postM K (n' + 1) (nI i) rows := by
        intro C isOut postM K n' rows hh
        refine ff (nI_ge hi (by omega)) ⟨hini, ?_⟩
        rw [nI_cl (n := i) (by omega), ix32', nI_cl (n := i * 32 + col) (by omega)]
        exact hh
      by_cases c : upd out t 1 i = 0
      · refine nt c ⟨hinc, ?_⟩
        rw [nI_cl (n := i * 32 + col) (by omega)]
        by_cases d : g (i * 32 + col) = 0
        · refine tt ((lg_cmp_eq _ _).mpr d) (nm ?_)
          rw [nI_1]
          refine ih g ⟨gB, fun C isOut postM K n' hh => gQ C isOut postM K (n' + 1) (fun rows' hm' => mrow (nt (by rw [← hm'.1 i hi]; exact c) ⟨hinc, tt ((lg_cmp_eq _ _).mpr (by rw [← hm'.2 i col hi hcol]; exact d)) (nm ?_)⟩))⟩
          rw [nI_1]; exact hh _ hm'
        · have hit : i ≠ t := fun e => by
            rw [e, pk_us] at c; exact absurd c (by decide)
          refine ff (fun q => d ((lg_cmp_eq _ _).mp q)) (combineX (x := fun c => g (i * 32 + c)) (y := fun c => g (t * 32 + c)) (by omega) (by omega) hit hcol (fun _ _ => rfl) (fun _ _ => rfl) (fun c hc => gB i c hi hc) (fun c hc => gB t c ht hc) (fun hok g' e1 e2 => y1 (nm ?_)) (fun hno g' => y0 ?_))
          · rw [nI_1]
            refine ih g' ⟨fun r c hr hc => ?_, fun C isOut postM K n' hh => gQ C isOut postM K (n' + 1) (fun rows' hm' => mrow (nt (by rw [← hm'.1 i hi]; exact c) ⟨hinc, ff (fun q => d (by rw [hm'.2 i col hi hcol]; exact (lg_cmp_eq _ _).mp q)) ?_⟩))⟩
            · by_cases e : r = i
              · rw [e, e1 c hc]; exact hok c hc
              · rw [e2 _ (by omega)]; exact gB r c hr hc
            · refine lessM (x := fun c => g (i * 32 + c)) (y := fun c => g (t * 32 + c)) (by omega) (by omega) hit hcol (fun c hc => (hm'.2 i c hi hc).symm) (fun c hc => (hm'.2 t c ht hc).symm) (fun c hc => gB i c hi hc) (fun c hc => gB t c ht hc) (fun _ rows2 f1 f2 => y1 (nm ?_)) (fun q => absurd hok q)
              rw [nI_1]
              refine hh _ ⟨hm'.1, fun r c hr hc => ?_⟩
              by_cases e : r = i
              · rw [e, e1 c hc, f1 c hc]
              · rw [e2 _ (by omega), f2 _ (by omega)]; exact hm'.2 r c hr hc
          · refine h0 _ _ (fun C postM K n' isOut rows hC hm hp => mgo hC hm (fun hm2 => ?_))
            refine gQ C (upd isOut t 1) postM _ 1 (fun rows' hm' => mrow (n' := 0) (nt (by rw [← hm'.1 i hi]; exact c) ⟨hinc, ff (fun q => d (by rw [hm'.2 i col hi hcol]; exact (lg_cmp_eq _ _).mp q)) ?_⟩)) hm2
            exact lessM (x := fun c => g (i * 32 + c)) (y := fun c => g (t * 32 + c)) (by omega) (by omega) hit hcol (fun c hc => (hm'.2 i c hi hc).symm) (fun c hc => (hm'.2 t c ht hc).symm) (fun c hc => gB i c hi hc) (fun c hc => gB t c ht hc) (fun q => absurd q hno) (fun _ rows2 => y0 (hp _ _))
      · refine nf c (nm ?_)
        rw [nI_1]
        refine ih g ⟨gB, fun C isOut postM K n' hh => gQ C isOut postM K (n' + 1) (fun rows' hm' => mrow (nf (by rw [← hm'.1 i hi]; exact c) (nm ?_)))⟩
        rw [nI_1]; exact hh _ hm'
  · rw [er]
    refine ff (by decide) (h1 _ _ hx0 (fun C postM K n' isOut rows hC hm hp => ff hC (firstM hn hcol (fun r' hr' => ?_))))
    rw [same hm r' hr', er]
    refine tt (by decide) (nm ?_)
    rw [nI_1]; exact hp _ _ hm
