/-! ===== things that go and come: lists of kinds ===== -/
def pack : List Nat → Nat
  | [] => 0
  | k :: l => k + 4 * pack l
theorem pack_app (k : Nat) : ∀ l : List Nat, pack (l ++ [k]) = pack l + k * 4 ^ l.length
  | [] => by simp [pack]
  | a :: l => by
    show a + 4 * pack (l ++ [k]) = a + 4 * pack l + k * 4 ^ (l.length + 1)
    rw [pack_app k l, Nat.pow_succ, Nat.mul_add, ← Nat.mul_assoc, Nat.mul_comm (4 : Nat) k, Nat.mul_assoc, Nat.mul_comm 4 (4 ^ l.length)]
    omega
theorem pack_lt : ∀ l : List Nat, (∀ k ∈ l, k ≤ 3) → pack l < 4 ^ l.length
  | [], _ => by decide
  | a :: l, h => by
    have h1 := pack_lt l (fun k hk => h k (List.mem_cons_of_mem _ hk))
    have h2 := h a List.mem_cons_self
    show a + 4 * pack l < 4 ^ (l.length + 1)
    rw [Nat.pow_succ]
    omega
theorem pack_dig : ∀ (l : List Nat) (i : Nat), (∀ k ∈ l, k ≤ 3) → i < l.length → pack l / 4 ^ i % 4 = l.getD i 0
  | [], i, _, h => absurd h (by simp)
  | a :: l, 0, h, _ => by
    have h2 := h a List.mem_cons_self
    show (a + 4 * pack l) / 4 ^ 0 % 4 = a
    rw [Nat.pow_zero, Nat.div_one]
    omega
  | a :: l, i + 1, h, hi => by
    have h2 := h a List.mem_cons_self
    show (a + 4 * pack l) / 4 ^ (i + 1) % 4 = l.getD i 0
    rw [Nat.pow_succ, Nat.mul_comm (4 ^ i) 4, ← Nat.div_div_eq_div_mul, show (a + 4 * pack l) / 4 = pack l by omega]
    exact pack_dig l i (fun k hk => h k (List.mem_cons_of_mem _ hk)) (by simp at hi; omega)
/-- i things read; the first n of a kind left out: how many are to be left out yet, what stayed -/
def mv (a : Nat → Nat) (w : Int32) (n : Nat) : Nat → Nat × List Nat
  | 0 => (n, [])
  | i + 1 => if 0 < (mv a w n i).1 ∧ ofKb (nI (a i)) w = true then ((mv a w n i).1 - 1, (mv a w n i).2) else ((mv a w n i).1, (mv a w n i).2 ++ [a i])
def cA (a : Nat → Nat) (w : Int32) : Nat → Nat
  | 0 => 0
  | i + 1 => cA a w i + (if ofKb (nI (a i)) w = true then 1 else 0)
theorem mv_yes {a : Nat → Nat} {w : Int32} {n i : Nat} (h1 : 0 < (mv a w n i).1) (h2 : ofKb (nI (a i)) w = true) : mv a w n (i + 1) = ((mv a w n i).1 - 1, (mv a w n i).2) := if_pos ⟨h1, h2⟩
theorem mv_no {a : Nat → Nat} {w : Int32} {n i : Nat} (h : ¬ (0 < (mv a w n i).1 ∧ ofKb (nI (a i)) w = true)) : mv a w n (i + 1) = ((mv a w n i).1, (mv a w n i).2 ++ [a i]) := if_neg h
theorem mv_len (a : Nat → Nat) (w : Int32) (n : Nat) : ∀ i, (mv a w n i).2.length + n = i + (mv a w n i).1 ∧ (mv a w n i).1 ≤ n
  | 0 => ⟨by show 0 + n = 0 + n; rfl, Nat.le_refl n⟩
  | i + 1 => by
    have ih := mv_len a w n i
    by_cases h : 0 < (mv a w n i).1 ∧ ofKb (nI (a i)) w = true
    · rw [mv_yes h.1 h.2]
      refine ⟨?_, ?_⟩
      · show (mv a w n i).2.length + n = i + 1 + ((mv a w n i).1 - 1)
        omega
      · show (mv a w n i).1 - 1 ≤ n
        omega
    · rw [mv_no h]
      refine ⟨?_, ih.2⟩
      show ((mv a w n i).2 ++ [a i]).length + n = i + 1 + (mv a w n i).1
      simp
      omega
theorem mv_le (a : Nat → Nat) (w : Int32) (n i : Nat) : (mv a w n i).2.length ≤ i := by
  have := mv_len a w n i
  omega
theorem mv_cnt (a : Nat → Nat) (w : Int32) (n : Nat) : ∀ i, n ≤ (mv a w n i).1 + cA a w i
  | 0 => Nat.le_refl n
  | i + 1 => by
    have ih := mv_cnt a w n i
    show n ≤ (mv a w n (i + 1)).1 + (cA a w i + (if ofKb (nI (a i)) w = true then 1 else 0))
    by_cases h : 0 < (mv a w n i).1 ∧ ofKb (nI (a i)) w = true
    · rw [mv_yes h.1 h.2, if_pos h.2]
      show n ≤ (mv a w n i).1 - 1 + (cA a w i + 1)
      omega
    · rw [mv_no h]
      show n ≤ (mv a w n i).1 + (cA a w i + _)
      split <;> omega
theorem mv_zero {a : Nat → Nat} {w : Int32} {n v : Nat} (h : n ≤ cA a w v) : ∀ (hle : (mv a w n v).1 + cA a w v ≤ n ∨ (mv a w n v).1 = 0), (mv a w n v).1 = 0 := fun hle => by omega
theorem mv_low (a : Nat → Nat) (w : Int32) (n : Nat) : ∀ i, (mv a w n i).1 = 0 ∨ (mv a w n i).1 + cA a w i ≤ n
  | 0 => Or.inr (Nat.le_refl n)
  | i + 1 => by
    have ih := mv_low a w n i
    show (mv a w n (i + 1)).1 = 0 ∨ (mv a w n (i + 1)).1 + (cA a w i + (if ofKb (nI (a i)) w = true then 1 else 0)) ≤ n
    by_cases h : 0 < (mv a w n i).1 ∧ ofKb (nI (a i)) w = true
    · rw [mv_yes h.1 h.2, if_pos h.2]
      show (mv a w n i).1 - 1 = 0 ∨ (mv a w n i).1 - 1 + (cA a w i + 1) ≤ n
      omega
    · rw [mv_no h]
      show (mv a w n i).1 = 0 ∨ (mv a w n i).1 + (cA a w i + _) ≤ n
      by_cases h1 : 0 < (mv a w n i).1
      · have h2 : ¬ ofKb (nI (a i)) w = true := fun q => h ⟨h1, q⟩
        rw [if_neg h2]; omega
      · omega
theorem mv_done {a : Nat → Nat} {w : Int32} {n v : Nat} (h : n ≤ cA a w v) : (mv a w n v).1 = 0 ∧ (mv a w n v).2.length + n = v := by
  have h1 := mv_low a w n v
  have h2 := (mv_len a w n v).1
  omega
theorem mv_small {a : Nat → Nat} {w : Int32} {n : Nat} : ∀ i, (∀ j, j < i → a j ≤ 3) → ∀ k ∈ (mv a w n i).2, k ≤ 3
  | 0, _, k, hk => absurd hk (by show ¬ k ∈ []; simp)
  | i + 1, h, k, hk => by
    have ih := mv_small (a := a) (w := w) (n := n) i (fun j hj => h j (by omega))
    by_cases c : 0 < (mv a w n i).1 ∧ ofKb (nI (a i)) w = true
    · rw [mv_yes c.1 c.2] at hk; exact ih k hk
    · rw [mv_no c] at hk
      have hk : k ∈ (mv a w n i).2 ++ [a i] := hk
      rcases List.mem_append.mp hk with q | q
      · exact ih k q
      · rw [List.mem_singleton.mp q]; exact h i (by omega)
theorem cA_cW {t : Nat} {w : Int32} : ∀ v, cA (fun i => t / 4 ^ i % 4) w v = cW t w v
  | 0 => rfl
  | v + 1 => by
    show cA _ w v + _ = cW t w v + _
    rw [cA_cW v]
/-- the class: one more thing in a place that holds the list l -/
theorem append_spec {many : Nat → Int32} {things : Nat → Int64} {p k : Nat} {l : List Nat} {post : (Nat → Int32) → (Nat → Int64) → Prop} (hp : p < 16) (h1 : many p = nI l.length) (h2 : things p = lN (pack l)) (hl : l.length < 20) (hs : ∀ x ∈ l, x ≤ 3) (hk : k ≤ 3) (h : ∀ m' t', m' p = nI (l ++ [k]).length → t' p = lN (pack (l ++ [k])) → (∀ q, q ≠ p → m' q = many q ∧ t' q = things q) → post m' t') : w_X3_append many things (nI p) (nI k) post := by
  have hin : vp_in (nI p) 16 := vp_in_nI hp (by omega)
  refine ⟨hin, hin, hin, hin, hin, ?_⟩
  rw [nI_cl (n := p) (by omega), h1, h2, app_val hl (pack_lt l hs) hk]
  refine h _ _ ?_ ?_ (fun q hq => ⟨pk_un hq, pk_uLn hq⟩)
  · rw [pk_us, nI_1]; simp
  · rw [pk_uLs, pack_app]
theorem takeFirst_spec {many : Nat → Int32} {things : Nat → Int64} {p v t n : Nat} {w : Int32} {post : (Nat → Int32) → (Nat → Int64) → Prop} (hp : p < 16) (h1 : many p = nI v) (hv : v ≤ 20) (hn : n ≤ 9) (h2 : things p = lN t) (ht : t < 4 ^ v)
    (h : ∀ m' t', m' p = nI (mv (fun i => t / 4 ^ i % 4) w n v).2.length → t' p = lN (pack (mv (fun i => t / 4 ^ i % 4) w n v).2) → (∀ q, q ≠ p → m' q = many q ∧ t' q = things q) → post m' t') : w_X3_takeFirst many things (nI p) (nI n) w post := by
  have hin : vp_in (nI p) 16 := vp_in_nI hp (by omega)
  have hcl : (nI p).toNatClampNeg = p := nI_cl (by omega)
  have hd : ∀ j, (fun i => t / 4 ^ i % 4) j ≤ 3 := fun j => by show t / 4 ^ j % 4 ≤ 3; omega
  refine ⟨hin, nm ⟨hin, nm ⟨hin, hin, ?_⟩⟩⟩
  rw [hcl, h1, h2]
  refine pk_loop (σ := Int32 × (Nat → Int32) × (Nat → Int64)) (fun n' i g => w_X3_takeFirst_L27 (nI p) w (nI v) (lN t) post (fun _ _ s24 s25 => post s24 s25) n' g.1 (nI i) g.2.1 g.2.2) (fun i g => g.1 = nI (mv (fun i => t / 4 ^ i % 4) w n i).1 ∧ g.2.1 p = nI (mv (fun i => t / 4 ^ i % 4) w n i).2.length ∧ g.2.2 p = lN (pack (mv (fun i => t / 4 ^ i % 4) w n i).2) ∧ ∀ q, q ≠ p → g.2.1 q = many q ∧ g.2.2 q = things q) v 0 (nI n, upd many p 0, vp_updL things p 0) (by omega) ⟨rfl, pk_us, pk_uLs, fun q hq => ⟨pk_un hq, pk_uLn hq⟩⟩ ?_ ?_
  · intro n' g hg
    exact tt (nI_le (Nat.le_refl v) (by omega)) (h _ _ hg.2.1 hg.2.2.1 hg.2.2.2)
  · intro n' i g hi hg ih
    obtain ⟨g1, g2, g3, g4⟩ := hg
    refine ff (nI_ge hi (by omega)) ?_
    have hlen := mv_le (fun i => t / 4 ^ i % 4) w n i
    have hleft := (mv_len (fun i => t / 4 ^ i % 4) w n i).2
    have hsm := mv_small (a := fun i => t / 4 ^ i % 4) (w := w) (n := n) i (fun j _ => hd j)
    unfold w_X3_kindIn
    rw [kind_val (pow40 hv ht) (by omega), g1]
    have stay : ¬ (0 < (mv (fun i => t / 4 ^ i % 4) w n i).1 ∧ ofKb (nI (t / 4 ^ i % 4)) w = true) → w_X3_append g.2.1 g.2.2 (nI p) (nI (t / 4 ^ i % 4)) (fun y10 y11 => ∀ x12 : Int32, x12 = nI i + (1 : Int32) → w_X3_takeFirst_L27 (nI p) w (nI v) (lN t) post (fun _ _ s24 s25 => post s24 s25) n' (nI (mv (fun i => t / 4 ^ i % 4) w n i).1) x12 y10 y11) := by
      intro hc
      refine append_spec hp g2 g3 (by omega) hsm (hd i) (fun m' t' e1 e2 e3 => nm ?_)
      rw [nI_1]
      refine ih (nI (mv (fun i => t / 4 ^ i % 4) w n i).1, m', t') ⟨?_, ?_, ?_, fun q hq => ⟨(e3 q hq).1.trans (g4 q hq).1, (e3 q hq).2.trans (g4 q hq).2⟩⟩
      · rw [mv_no hc]
      · rw [mv_no hc]; exact e1
      · rw [mv_no hc]; exact e2
    by_cases c1 : (mv (fun i => t / 4 ^ i % 4) w n i).1 = 0
    · exact tt (by rw [c1]; decide) (stay (by omega))
    · refine ff (fun q => c1 ((nI_z (by omega)).mp ((nI_le0 (by omega)).mp q))) ?_
      by_cases c2 : ofKb (nI (t / 4 ^ i % 4)) w = true
      · refine kX_yes c2 (z1 (nm (nm ?_)))
        rw [nI_1, sb_m1 (by omega)]
        have e := mv_yes (a := fun i => t / 4 ^ i % 4) (w := w) (n := n) (i := i) (by omega) c2
        refine ih (nI ((mv (fun i => t / 4 ^ i % 4) w n i).1 - 1), g.2.1, g.2.2) ⟨?_, ?_, ?_, g4⟩
        · rw [e]
        · rw [e]; exact g2
        · rw [e]; exact g3
      · exact kX_no c2 (z0 (stay (fun q => c2 q.2)))
theorem appendMany_spec {many : Nat → Int32} {things : Nat → Int64} {p n k : Nat} {l : List Nat} {post : (Nat → Int32) → (Nat → Int64) → Prop} (hp : p < 16) (h1 : many p = nI l.length) (h2 : things p = lN (pack l)) (hl : l.length + n ≤ 20) (hs : ∀ x ∈ l, x ≤ 3) (hk : k ≤ 3) (h : ∀ m' t', m' p = nI (l ++ List.replicate n k).length → t' p = lN (pack (l ++ List.replicate n k)) → (∀ q, q ≠ p → m' q = many q ∧ t' q = things q) → post m' t') : w_X3_appendMany many things (nI p) (nI n) (nI k) post := by
  refine pk_loop (σ := (Nat → Int32) × (Nat → Int64)) (fun n' i g => w_X3_appendMany_L3 (nI p) (nI n) (nI k) post (fun _ s8 s9 => post s8 s9) n' (nI i) g.1 g.2) (fun i g => g.1 p = nI (l ++ List.replicate i k).length ∧ g.2 p = lN (pack (l ++ List.replicate i k)) ∧ ∀ q, q ≠ p → g.1 q = many q ∧ g.2 q = things q) n 0 (many, things) (by omega) ⟨by simpa using h1, by simpa using h2, fun q _ => ⟨rfl, rfl⟩⟩ ?_ ?_
  · intro n' g hg
    exact tt (nI_le (Nat.le_refl n) (by omega)) (h _ _ hg.1 hg.2.1 hg.2.2)
  · intro n' i g hi hg ih
    refine ff (nI_ge hi (by omega)) (append_spec hp hg.1 hg.2.1 (by simp; omega) (fun x hx => ?_) hk (fun m' t' e1 e2 e3 => nm ?_))
    · rcases List.mem_append.mp hx with q | q
      · exact hs x q
      · rw [(List.mem_replicate.mp q).2]; exact hk
    · rw [nI_1]
      have er : l ++ List.replicate i k ++ [k] = l ++ List.replicate (i + 1) k := by rw [List.append_assoc, ← List.replicate_succ']
      rw [er] at e1 e2
      exact ih (m', t') ⟨e1, e2, fun q hq => ⟨(e3 q hq).1.trans (hg.2.2 q hq).1, (e3 q hq).2.trans (hg.2.2 q hq).2⟩⟩
/-- the reference: the same in its row of things -/
theorem moveM_spec {gf has pt tk mth wt : Nat → Int32} {s p v n u k : Nat} {a : Nat → Nat} {post : (Nat → Int32) → (Nat → Int32) → Prop} (hs : s < 16) (hp : p < 16) (h1 : has p = nI v) (hv : v ≤ 20) (h2 : tk (16 * s + p) = nI n) (hn : n ≤ 9) (h3 : pt (16 * s + p) = nI u) (hu : u ≤ 9) (h4 : gf (16 * s + p) = nI k) (ha : ∀ i, i < v → mth (20 * p + i) = nI (a i)) (hroom : (mv a (wt (16 * s + p)) n v).2.length + u ≤ 20)
    (h : ∀ m', (∀ i, i < (mv a (wt (16 * s + p)) n v).2.length + u → m' (20 * p + i) = nI (((mv a (wt (16 * s + p)) n v).2 ++ List.replicate u k).getD i 0)) → (∀ q, (q < 20 * p ∨ 20 * p + 20 ≤ q) → m' q = mth q) → post (upd has p (nI ((mv a (wt (16 * s + p)) n v).2 ++ List.replicate u k).length)) m') : w_X10_move gf has pt tk mth wt (nI s) (nI p) post := by
  have hin : vp_in (nI p) 16 := vp_in_nI hp (by omega)
  have hcl : (nI p).toNatClampNeg = p := nI_cl (by omega)
  have hx : vp_in (nI (16 * s + p)) 256 := vp_in_nI (by omega) (by omega)
  unfold w_X10_move
  refine nm ?_
  rw [ixA]
  refine ⟨hx, nm ?_⟩
  have hclx : (nI (16 * s + p)).toNatClampNeg = 16 * s + p := nI_cl (by omega)
  rw [hclx, h2]
  generalize hw : wt (16 * s + p) = w at *
  refine pk_loop (σ := Int32 × Int32 × (Nat → Int32)) (fun n' i g => w_X10_move_L21 (nI p) (nI (16 * s + p)) gf has pt tk wt post (fun v18 v19 v20 s21 => ∃ n : Nat, w_X10_move_L97 (nI p) (nI (16 * s + p)) gf has pt tk wt post (fun v27 v28 s29 => vp_in (nI p) 16 ∧ post (upd has (nI p).toNatClampNeg v27) s29) n v19 0 s21) n' g.1 g.2.1 (nI i) g.2.2)
    (fun i g => g.1 = nI (mv a w n i).1 ∧ g.2.1 = nI (mv a w n i).2.length ∧ (∀ j, j < (mv a w n i).2.length → g.2.2 (20 * p + j) = nI ((mv a w n i).2.getD j 0)) ∧ (∀ j, i ≤ j → j < 20 → g.2.2 (20 * p + j) = mth (20 * p + j)) ∧ ∀ q, (q < 20 * p ∨ 20 * p + 20 ≤ q) → g.2.2 q = mth q) v 0 (nI n, 0, mth) (by omega) ⟨rfl, rfl, fun j hj => absurd hj (by show ¬ j < 0; omega), fun j _ _ => rfl, fun q _ => rfl⟩ ?_ ?_
  · intro n' g hg
    obtain ⟨g1, g2, g3, g4, g5⟩ := hg
    refine ⟨hin, tt (by rw [hcl, h1]; exact nI_le (Nat.le_refl v) (by omega)) ?_⟩
    refine pk_loop (σ := Int32 × (Nat → Int32)) (fun n' i f => w_X10_move_L97 (nI p) (nI (16 * s + p)) gf has pt tk wt post (fun v27 v28 s29 => vp_in (nI p) 16 ∧ post (upd has (nI p).toNatClampNeg v27) s29) n' f.1 (nI i) f.2) (fun i f => f.1 = nI ((mv a w n v).2.length + i) ∧ (∀ j, j < (mv a w n v).2.length + i → f.2 (20 * p + j) = nI (((mv a w n v).2 ++ List.replicate u k).getD j 0)) ∧ ∀ q, (q < 20 * p ∨ 20 * p + 20 ≤ q) → f.2 q = mth q) u 0 (g.2.1, g.2.2) (by omega) ⟨g2, fun j hj => ?_, g5⟩ ?_ ?_
    · rw [Nat.add_zero] at hj
      rw [g3 j hj]
      congr 1
      simp [List.getD, List.getElem?_append_left hj]
    · intro n'' f hf
      refine ⟨hx, tt (by rw [hclx, h3]; exact nI_le (Nat.le_refl u) (by omega)) ⟨hin, ?_⟩⟩
      rw [hcl, hf.1]
      have e : ((mv a w n v).2 ++ List.replicate u k).length = (mv a w n v).2.length + u := by simp
      rw [← e]
      exact h _ (by intro i hi; exact hf.2.1 i hi) hf.2.2
    · intro n'' i f hi hf ih
      refine ⟨hx, ff (by rw [hclx, h3]; exact nI_ge hi (by omega)) ⟨hx, ?_⟩⟩
      rw [hf.1, ixT]
      refine ⟨vp_in_nI (by omega) (by omega), nm (nm ?_)⟩
      rw [nI_1, nI_1, nI_cl (n := 20 * p + ((mv a w n v).2.length + i)) (by omega), hclx, h4]
      refine ih (nI ((mv a w n v).2.length + i + 1), upd f.2 (20 * p + ((mv a w n v).2.length + i)) (nI k)) ⟨by rw [Nat.add_assoc], fun j hj => ?_, fun q hq => by show upd f.2 (20 * p + ((mv a w n v).2.length + i)) (nI k) q = mth q; rw [pk_un (by omega)]; exact hf.2.2 q hq⟩
      show upd f.2 (20 * p + ((mv a w n v).2.length + i)) (nI k) (20 * p + j) = _
      by_cases e : j = (mv a w n v).2.length + i
      · subst e
        rw [pk_us]
        congr 1
        rw [List.getD, List.getElem?_append_right (by omega), List.getElem?_replicate, if_pos (by omega)]
        rfl
      · rw [pk_un (by omega)]; exact hf.2.1 j (by omega)
  · intro n' i g hi hg ih
    obtain ⟨g1, g2, g3, g4, g5⟩ := hg
    have hlen := mv_le a w n i
    have hleft := (mv_len a w n i).2
    refine ⟨hin, ff (by rw [hcl, h1]; exact nI_ge hi (by omega)) ?_⟩
    rw [ixT]
    refine ⟨vp_in_nI (by omega) (by omega), nm ?_⟩
    rw [nI_cl (n := 20 * p + i) (by omega), g4 i (Nat.le_refl i) (by omega), ha i hi, g1, g2, ixT, nI_cl (n := 20 * p + (mv a w n i).2.length) (by omega)]
    have hin2 : vp_in (nI (20 * p + (mv a w n i).2.length)) 320 := vp_in_nI (by omega) (by omega)
    have stay : ¬ (0 < (mv a w n i).1 ∧ ofKb (nI (a i)) w = true) → (vp_in (nI (20 * p + (mv a w n i).2.length)) 320 ∧ ∀ x8 : Int32, x8 = nI (mv a w n i).2.length + (1 : Int32) → ∀ x9 : Int32, x9 = nI i + (1 : Int32) → w_X10_move_L21 (nI p) (nI (16 * s + p)) gf has pt tk wt post (fun v18 v19 v20 s21 => ∃ n : Nat, w_X10_move_L97 (nI p) (nI (16 * s + p)) gf has pt tk wt post (fun v27 v28 s29 => vp_in (nI p) 16 ∧ post (upd has (nI p).toNatClampNeg v27) s29) n v19 0 s21) n' (nI (mv a w n i).1) x8 x9 (upd g.2.2 (20 * p + (mv a w n i).2.length) (nI (a i)))) := by
      intro hc
      refine ⟨hin2, nm (nm ?_)⟩
      rw [nI_1, nI_1]
      have e := mv_no hc
      have el : ((mv a w n i).2 ++ [a i]).length = (mv a w n i).2.length + 1 := by simp
      refine ih (nI (mv a w n i).1, nI ((mv a w n i).2.length + 1), upd g.2.2 (20 * p + (mv a w n i).2.length) (nI (a i))) ⟨?_, ?_, fun j hj => ?_, fun j hj hj2 => ?_, fun q hq => ?_⟩
      · rw [e]
      · rw [e]; show nI ((mv a w n i).2.length + 1) = nI ((mv a w n i).2 ++ [a i]).length; rw [el]
      · rw [e] at hj ⊢
        have hj : j < ((mv a w n i).2 ++ [a i]).length := hj
        rw [el] at hj
        show upd g.2.2 (20 * p + (mv a w n i).2.length) (nI (a i)) (20 * p + j) = nI (((mv a w n i).2 ++ [a i]).getD j 0)
        by_cases ej : j = (mv a w n i).2.length
        · subst ej
          rw [pk_us]
          congr 1
          simp [List.getD]
        · rw [pk_un (by omega), g3 j (by omega)]
          congr 1
          simp [List.getD, List.getElem?_append_left (show j < (mv a w n i).2.length by omega)]
      · show upd g.2.2 (20 * p + (mv a w n i).2.length) (nI (a i)) (20 * p + j) = mth (20 * p + j)
        rw [pk_un (by omega)]; exact g4 j (by omega) hj2
      · show upd g.2.2 (20 * p + (mv a w n i).2.length) (nI (a i)) q = mth q
        rw [pk_un (by omega)]; exact g5 q hq
    by_cases c1 : (mv a w n i).1 = 0
    · exact tt (by rw [c1]; decide) (stay (by omega))
    · refine ff (fun q => c1 ((nI_z (by omega)).mp ((nI_le0 (by omega)).mp q))) ⟨hx, ?_⟩
      rw [hclx, hw]
      by_cases c2 : ofKb (nI (a i)) w = true
      · refine kM_yes c2 (z1 (nm (nm ?_)))
        rw [nI_1, sb_m1 (by omega)]
        have e := mv_yes (a := a) (w := w) (n := n) (i := i) (by omega) c2
        refine ih (nI ((mv a w n i).1 - 1), nI (mv a w n i).2.length, g.2.2) ⟨?_, ?_, ?_, fun j hj => g4 j (by omega), g5⟩
        · rw [e]
        · rw [e]
        · rw [e]; exact g3
      · exact kM_no c2 (z0 (stay (fun q => c2 q.2)))
