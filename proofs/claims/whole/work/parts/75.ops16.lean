/-! ===== a list of markings: buckets, chains ===== -/
theorem lastP_cases (q : Nat → Prop) [DecidablePred q] : ∀ m, (lastP q m = -1 ∧ ∀ j, j < m → ¬ q j) ∨ ∃ j, j < m ∧ q j ∧ lastP q m = nI j ∧ ∀ k, j < k → k < m → ¬ q k
  | 0 => Or.inl ⟨rfl, fun j hj => absurd hj (by omega)⟩
  | m + 1 => by
    by_cases c : q m
    · exact Or.inr ⟨m, by omega, c, if_pos c, fun k h1 h2 => absurd h1 (by omega)⟩
    · have e : lastP q (m + 1) = lastP q m := if_neg c
      rw [e]
      rcases lastP_cases q m with ⟨h1, h2⟩ | ⟨j, h1, h2, h3, h4⟩
      · exact Or.inl ⟨h1, fun j hj => by
          by_cases e : j = m
          · subst e; exact c
          · exact h2 j (by omega)⟩
      · exact Or.inr ⟨j, by omega, h2, h3, fun k k1 k2 => by
          by_cases e : k = m
          · subst e; exact c
          · exact h4 k k1 (by omega)⟩
theorem lastP_congr {q r : Nat → Prop} [DecidablePred q] [DecidablePred r] : ∀ m, (∀ j, j < m → (q j ↔ r j)) → lastP q m = lastP r m
  | 0, _ => rfl
  | m + 1, h => by
    show (if q m then nI m else lastP q m) = (if r m then nI m else lastP r m)
    rw [lastP_congr m (fun j hj => h j (by omega))]
    by_cases c : q m
    · rw [if_pos c, if_pos ((h m (by omega)).mp c)]
    · rw [if_neg c, if_neg (fun d => c ((h m (by omega)).mpr d))]
theorem mix_congr {f g : Nat → Int32} : ∀ P, (∀ p, p < P → f p = g p) → mix f P = mix g P
  | 0, _ => rfl
  | P + 1, h => by
    show (((mix f P ^^^ f P) * (-1640531535 : Int32)) ^^^ (((mix f P ^^^ f P) * (-1640531535 : Int32)).toUInt32 >>> ((15 : Int32).toUInt32 &&& Int32.toUInt32 31)).toInt32) = (((mix g P ^^^ g P) * (-1640531535 : Int32)) ^^^ (((mix g P ^^^ g P) * (-1640531535 : Int32)).toUInt32 >>> ((15 : Int32).toUInt32 &&& Int32.toUInt32 31)).toInt32)
    rw [mix_congr P (fun p hp => h p (by omega)), h P (by omega)]
theorem bk_congr {P : Nat} {f g : Nat → Int32} (h : ∀ p, p < P → f p = g p) : bk P f = bk P g := by
  unfold bk bkI; rw [mix_congr P h]
theorem bk_eq (P : Nat) (h : Nat → Int32) : bkI P h = nI (bk P h) := by
  apply Int32.toBitVec_inj.mp
  show _ = BitVec.ofNat 32 (bkI P h).toBitVec.toNat
  simp
theorem bk_lt (P : Nat) (h : Nat → Int32) : bk P h < 1024 := by
  unfold bk bkI
  rw [pk_ushr _ (22 : Int32) 22 (by decide)]
  have := (mix h P * (-1640531535 : Int32)).toBitVec.isLt
  omega
theorem bucket_spec {P : Nat} {h : Nat → Int32} {post : Int32 → Prop} (hP : P ≤ 16) (k : post (nI (bk P h))) : w_X4_bucketOf (nI P) h post := by
  refine pk_loop (fun n i (v : Int32) => w_X4_bucketOf_L4 (nI P) h post (fun v7 _ => post ((v7 * (-1640531535 : Int32)).toUInt32 >>> ((22 : Int32).toUInt32 &&& Int32.toUInt32 31)).toInt32) n v (nI i)) (fun i v => v = mix h i) P 0 0 (by omega) rfl ?_ ?_
  · intro n v hg
    refine tt (nI_le (Nat.le_refl P) (by omega)) ?_
    rw [hg]
    show post (bkI P h)
    rw [bk_eq]; exact k
  · intro n i v hi hg ih
    refine ff (nI_ge hi (by omega)) ⟨vp_in_nI (by omega) (by omega), nm (nm (nm ?_))⟩
    rw [nI_1, nI_cl (n := i) (by omega)]
    exact ih _ (by rw [hg]; rfl)
theorem row_in {i N P p : Nat} (hi : i < N) (hp : p < P) (hP : P ≤ 16) (hN : N ≤ 8000) : i * P + p < N * 16 ∧ N * 16 < 2 ^ 31 := ⟨mul_in hi hp hP, by omega⟩
theorem isSame_spec {N P i : Nat} {cells h : Nat → Int32} {post : Int32 → Prop} (hP : P ≤ 16) (hN : N ≤ 8000) (hi : i < N) (h1 : SM P cells h i → post 1) (h0 : ¬ SM P cells h i → post 0) : w_X4_isSame N (nI P) cells h (nI i) post := by
  refine pk_loop (fun n k (_ : Unit) => w_X4_isSame_L2 N (nI i) (nI P) cells h post (fun _ => post 1) n (nI k)) (fun k _ => ∀ p, p < k → cells (i * P + p) = h p) P 0 () (by omega) (fun p hp => absurd hp (by omega)) ?_ ?_
  · intro n _ hg
    exact tt (nI_le (Nat.le_refl P) (by omega)) (h1 hg)
  · intro n k _ hk hg ih
    obtain ⟨b1, b2⟩ := row_in hi hk hP hN
    refine ff (nI_ge hk (by omega)) ?_
    rw [ixB]
    refine ⟨vp_in_nI b1 b2, vp_in_nI (by omega) (by omega), ?_⟩
    rw [nI_cl (n := i * P + k) (by omega), nI_cl (n := k) (by omega)]
    by_cases c : cells (i * P + k) = h k
    · refine tt c (nm ?_)
      rw [nI_1]
      refine ih () (fun p hp => ?_)
      by_cases e : p = k
      · subst e; exact c
      · exact hg p (by omega)
    · exact ff c (h0 (fun q => c (q k hk)))
theorem SM_bk {P i : Nat} {cells h : Nat → Int32} (q : SM P cells h i) : cB P cells i = bk P h := bk_congr q
/-- the number of a marking in the list, or below 0 -/
theorem indexOf_spec {N P n : Nat} {cells heads links h : Nat → Int32} {post : Int32 → Prop} (hP : P ≤ 16) (hN : N ≤ 8000) (hn : n ≤ N) (hX : hx P n cells heads links) (h1 : ∀ i, i < n → SM P cells h i → post (nI i)) (h0 : (∀ i, i < n → ¬ SM P cells h i) → post (-1)) : w_X4_indexOf N (nI n) (nI P) cells heads links h post := by
  refine bucket_spec hP ⟨vp_in_nI (bk_lt P h) (by omega), nm ?_⟩
  rw [nI_cl (n := bk P h) (by have := bk_lt P h; omega), hX.1 _ (bk_lt P h)]
  have key : ∀ left m, m ≤ left → left ≤ n → (∀ i, m ≤ i → i < n → ¬ SM P cells h i) → ∃ f : Nat, w_X4_indexOf_L16 N (nI n) (nI P) cells heads links h post (fun _ _ => post (-1 : Int32)) f (lastP (fun i => cB P cells i = bk P h) m) (nI left) := by
    intro left
    induction left with
    | zero =>
      intro m hm _ hno
      exact ⟨1, tt (by decide) (h0 (fun i hi => hno i (by omega) hi))⟩
    | succ left ih =>
      intro m hm hl hno
      rcases lastP_cases (fun i => cB P cells i = bk P h) m with ⟨e, q⟩ | ⟨j, hj, hb, e, q⟩
      · refine ⟨1, ff (nI_nle (by omega) (by omega)) ?_⟩
        rw [e]
        refine tt (by decide) (h0 (fun i hi => ?_))
        rcases Nat.lt_or_ge i m with c | c
        · exact fun s => q i c (SM_bk s)
        · exact hno i c hi
      · by_cases c : SM P cells h j
        · refine ⟨1, ff (nI_nle (by omega) (by omega)) ?_⟩
          rw [e]
          exact ff (nI_pos (by omega)) (isSame_spec hP hN (by omega) (fun _ => z1 (h1 j (by omega) c)) (fun d => absurd c d))
        · obtain ⟨f, hf⟩ := ih j (by omega) (by omega) (fun i h1 h2 => by
            rcases Nat.lt_or_ge i m with d | d
            · by_cases ej : i = j
              · subst ej; exact c
              · exact fun s => q i (by omega) d (SM_bk s)
            · exact hno i d h2)
          refine ⟨f + 1, ff (nI_nle (by omega) (by omega)) ?_⟩
          rw [e]
          refine ff (nI_pos (by omega)) (isSame_spec hP hN (by omega) (fun d => absurd d c) (fun _ => z0 ⟨vp_in_nI (by omega) (by omega), nm (nm ?_)⟩))
          rw [nI_cl (n := j) (by omega), hX.2 j (by omega), hb, pk_m1]
          exact hf
  exact key n n (Nat.le_refl n) (Nat.le_refl n) (fun i h1 h2 => absurd h1 (by omega))
/-- one more in the list -/
theorem hx_add {P n : Nat} {cells cells' heads links : Nat → Int32} {b : Nat} (hX : hx P n cells heads links) (hc : ∀ j p, j < n → p < P → cells' (j * P + p) = cells (j * P + p)) (hb : cB P cells' n = b) (hbl : b < 1024) : hx P (n + 1) cells' (upd heads b (nI n)) (upd links n (heads b)) := by
  have eB : ∀ j, j < n → cB P cells' j = cB P cells j := fun j hj => bk_congr (fun p hp => hc j p hj hp)
  refine ⟨fun c hc' => ?_, fun i hi => ?_⟩
  · show upd heads b (nI n) c = if cB P cells' n = c then nI n else lastP _ n
    by_cases e : c = b
    · subst e; rw [pk_us, if_pos hb]
    · rw [pk_un e, if_neg (by rw [hb]; exact fun q => e q.symm), hX.1 c hc']
      exact lastP_congr n (fun j hj => by rw [eB j hj])
  · by_cases e : i = n
    · subst e
      rw [pk_us, hb, hX.1 b hbl]
      exact lastP_congr i (fun j hj => by rw [eB j hj])
    · rw [pk_un e, hX.2 i (by omega)]
      exact lastP_congr i (fun j hj => by rw [eB j (by omega), eB i (by omega)])
theorem add_spec {N P n : Nat} {a2 a3 : Int32} {by_ cells former heads links h : Nat → Int32} {post : Int32 → (Nat → Int32) → (Nat → Int32) → (Nat → Int32) → (Nat → Int32) → (Nat → Int32) → Prop} (hP : P ≤ 16) (hN : N ≤ 8000) (hn : n < N) (hX : hx P n cells heads links)
    (k : ∀ cells' heads' links', (∀ j p, j < n → p < P → cells' (j * P + p) = cells (j * P + p)) → (∀ p, p < P → cells' (n * P + p) = h p) → hx P (n + 1) cells' heads' links' → post (nI (n + 1)) (upd by_ n a3) cells' (upd former n a2) heads' links') : w_X4_add N (nI n) (nI P) by_ cells former heads links h a2 a3 post := by
  have hm : n * P + P ≤ N * 16 := by
    have h1 : (n + 1) * P ≤ N * P := Nat.mul_le_mul_right P hn
    have h2 : N * P ≤ N * 16 := Nat.mul_le_mul_left N hP
    rw [Nat.succ_mul] at h1
    omega
  have hin : vp_in (nI n) N := vp_in_nI hn (by omega)
  have c0 : (0 : Int32).toNatClampNeg = 0 := by decide
  unfold w_X4_add
  rw [pk_mul]
  refine ⟨⟨by decide, nI_pos (by omega), nI_pos (by omega), ?_, ?_⟩, hin, hin, bucket_spec hP ⟨vp_in_nI (bk_lt P h) (by omega), hin, vp_in_nI (bk_lt P h) (by omega), nm ?_⟩⟩
  · rw [c0, nI_cl (by omega)]; omega
  · rw [nI_cl (n := n * P) (by omega), nI_cl (n := P) (by omega)]; exact hm
  · rw [nI_1, nI_cl (n := n) (by omega), nI_cl (n := n * P) (by omega), nI_cl (n := P) (by omega), c0, nI_cl (n := bk P h) (by have := bk_lt P h; omega)]
    have e1 : ∀ j p, j < n → p < P → va_cpy h cells 0 (n * P) P (j * P + p) = cells (j * P + p) := fun j p hj hp => by
      have : (j + 1) * P ≤ n * P := Nat.mul_le_mul_right P hj
      rw [Nat.succ_mul] at this
      rw [pk_cpy_out (by omega)]
    have e2 : ∀ p, p < P → va_cpy h cells 0 (n * P) P (n * P + p) = h p := fun p hp => by
      rw [pk_cpy_in (by omega) (by omega)]; congr 1; omega
    exact k _ _ _ e1 e2 (hx_add hX e1 (bk_congr e2) (bk_lt P h))
theorem begin_spec {P : Nat} {x y : Int32} {f : Nat → Int32} {post : Int32 → Int32 → (Nat → Int32) → Prop} (k : ∀ heads, (∀ b, b < 1024 → heads b = -1) → post 0 (nI P) heads) : w_X4_begin x y f (nI P) post :=
  fill_spec (by omega) (fun g h1 _ => k g h1)
theorem hx_0 {P : Nat} {cells heads links : Nat → Int32} (h : ∀ b, b < 1024 → heads b = -1) : hx P 0 cells heads links := ⟨fun b hb => h b hb, fun i hi => absurd hi (by omega)⟩
theorem load_spec {N P i : Nat} {cells f : Nat → Int32} {post : (Nat → Int32) → Prop} (hP : P ≤ 16) (hN : N ≤ 8000) (hi : i < N) (k : ∀ g, (∀ p, p < P → g p = cells (i * P + p)) → (∀ p, P ≤ p → g p = f p) → post g) : w_X4_load N (nI P) cells f (nI i) post := by
  have hm : i * P + P ≤ N * 16 := by
    have h1 : (i + 1) * P ≤ N * P := Nat.mul_le_mul_right P hi
    have h2 : N * P ≤ N * 16 := Nat.mul_le_mul_left N hP
    rw [Nat.succ_mul] at h1
    omega
  have c0 : (0 : Int32).toNatClampNeg = 0 := by decide
  unfold w_X4_load
  rw [pk_mul]
  refine ⟨⟨nI_pos (by omega), by decide, nI_pos (by omega), ?_, ?_⟩, ?_⟩
  · rw [nI_cl (n := i * P) (by omega), nI_cl (n := P) (by omega)]; exact hm
  · rw [c0, nI_cl (by omega)]; omega
  · rw [nI_cl (n := i * P) (by omega), nI_cl (n := P) (by omega), c0]
    refine k _ (fun p hp => ?_) (fun p hp => pk_cpy_out (by omega))
    rw [pk_cpy_in (by omega) (by omega)]; rfl
