/-! ===== the tree grows: both sides ===== -/
theorem HS_cases {P : Nat} {cells former h : Nat → Int32} {i p : Nat} : ∀ m, HS P cells former i h m p = 2147483647 ∨ HS P cells former i h m p = h p
  | 0 => Or.inr rfl
  | m + 1 => by
    show st1 P cells (an former m i) (HS P cells former i h m) p = _ ∨ st1 P cells (an former m i) (HS P cells former i h m) p = h p
    unfold st1
    split
    · exact Or.inl rfl
    · exact HS_cases m
theorem HS_end {P : Nat} {cells former h : Nat → Int32} {i p k : Nat} (q : HS P cells former i h k p = 2147483647) : ∀ m, HS P cells former i h (k + m) p = 2147483647
  | 0 => q
  | m + 1 => by
    show st1 P cells (an former (k + m) i) (HS P cells former i h (k + m)) p = _
    unfold st1
    split
    · rfl
    · exact HS_end q m
theorem HS_keep {P : Nat} {cells former h : Nat → Int32} {i k : Nat} (hh : ∀ p, p < P → ¬ h p = 2147483647) (hn : ∀ j, j < k → ¬ GRW P cells (an former j i) (HS P cells former i h j)) : ∀ m, m ≤ k → ∀ p, p < P → HS P cells former i h m p = h p
  | 0, _, _, _ => rfl
  | m + 1, hm, p, hp => by
    have ih := HS_keep hh hn m (by omega)
    show st1 P cells (an former m i) (HS P cells former i h m) p = h p
    by_cases c : cells (an former m i * P + p) < HS P cells former i h m p
    · by_cases d : NAB P cells (an former m i) (HS P cells former i h m)
      · exact absurd ⟨d, p, hp, by rw [ih p hp]; exact hh p hp, c⟩ (hn m (by omega))
      · rw [st1_no d]; exact ih p hp
    · rw [st1_eq c]; exact ih p hp
section AN
variable {n : Nat} {former : Nat → Int32}
theorem an_le (hf : ∀ j, 0 < j → j < n → ∃ a : Nat, a < j ∧ former j = nI a) (hr : former 0 = NONE) (hn : n ≤ 8000) {i : Nat} (hi : i < n) : ∀ m, an former m i ≤ i
  | 0 => Nat.le_refl i
  | m + 1 => by
    have ih := an_le hf hr hn hi m
    show (former (an former m i)).toNatClampNeg ≤ i
    rcases Nat.eq_zero_or_pos (an former m i) with e | e
    · rw [e, hr, NONE_cl]; omega
    · obtain ⟨a, ha, q⟩ := hf _ e (by omega)
      rw [q, nI_cl (by omega)]; omega
theorem an_upd (hf : ∀ j, 0 < j → j < n → ∃ a : Nat, a < j ∧ former j = nI a) (hr : former 0 = NONE) (hn : n ≤ 8000) {i : Nat} {x : Int32} (hi : i < n) : ∀ m, an (upd former n x) m i = an former m i
  | 0 => rfl
  | m + 1 => by
    have := an_le hf hr hn hi m
    show (upd former n x (an (upd former n x) m i)).toNatClampNeg = (former (an former m i)).toNatClampNeg
    rw [an_upd hf hr hn hi m, pk_un (by omega)]
theorem an_new (hf : ∀ j, 0 < j → j < n → ∃ a : Nat, a < j ∧ former j = nI a) (hr : former 0 = NONE) (hn : n ≤ 8000) {i : Nat} (hi : i < n) : ∀ m, an (upd former n (nI i)) (m + 1) n = an former m i
  | 0 => by
    show (upd former n (nI i) n).toNatClampNeg = i
    rw [pk_us, nI_cl (by omega)]
  | m + 1 => by
    have := an_le hf hr hn hi m
    show (upd former n (nI i) (an (upd former n (nI i)) (m + 1) n)).toNatClampNeg = (former (an former m i)).toNatClampNeg
    rw [an_new hf hr hn hi m, pk_un (by omega)]
end AN
theorem LSS_same {P n : Nat} {by_ by' cells cells' former former' pt tk : Nat → Int32} {i a : Nat} (hi : i < n) (ha : a < n) (hb : by' i = by_ i) (ho : an former' 1 i = an former 1 i) (hl : an former 1 i < n) (c1 : ∀ j p, j < n → p < P → cells' (j * P + p) = cells (j * P + p)) : LSS P by' cells' former' pt tk i a ↔ LSS P by_ cells former pt tk i a := by
  unfold LSS
  rw [hb, ho]
  constructor
  · rintro ⟨h1, p, hp, h2⟩
    refine ⟨fun p hp => ?_, p, hp, ?_⟩
    · have := h1 p hp; rw [c1 a p ha hp, c1 _ p hl hp] at this; exact this
    · rw [c1 a p ha hp, c1 _ p hl hp] at h2; exact h2
  · rintro ⟨h1, p, hp, h2⟩
    refine ⟨fun p hp => ?_, p, hp, ?_⟩
    · rw [c1 a p ha hp, c1 _ p hl hp]; exact h1 p hp
    · rw [c1 a p ha hp, c1 _ p hl hp]; exact h2
theorem tEnd_add {P n i s d : Nat} {eN eB r : Int32} {by_ cells cells' former pt tk h : Nat → Int32} (hn : n < 2000) (hi : i < n) (hs : s < 16) (hf : ∀ j, 0 < j → j < n → ∃ a : Nat, a < j ∧ former j = nI a) (hr : former 0 = NONE) (c1 : ∀ j p, j < n → p < P → cells' (j * P + p) = cells (j * P + p)) (c2 : ∀ p, p < P → cells' (n * P + p) = HS P cells former i h (d + 1) p) (hh : ∀ p, p < P → ¬ cells (i * P + p) = 2147483647 → (h p = cells (i * P + p) + (pt (16 * s + p) - tk (16 * s + p)) ∧ ¬ h p = 2147483647)) (hNI : NI_ P cells former i h (d + 1) r) (hT : tEnd P n eN eB by_ cells former pt tk) : tEnd P (n + 1) (if r < 0 ∨ 0 ≤ eN then eN else nI n) (if r < 0 ∨ 0 ≤ eN then eB else r) (upd by_ n (nI s)) cells' (upd former n (nI i)) pt tk := by
  have hn8 : n ≤ 8000 := by omega
  rcases hT with ⟨e1, e2⟩ | ⟨i0, k0, z1, z2, z3, z4, z5, z6, z7, z8⟩
  · have nE : ∀ p, p < P → ¬ h p = 2147483647 := fun p hp => (hh p hp (e2 i p hi hp)).2
    have hv : ∀ p, p < P → h p = cells (i * P + p) + (pt (16 * s + p) - tk (16 * s + p)) := fun p hp => (hh p hp (e2 i p hi hp)).1
    have n0 : ¬ (0 : Int32) ≤ eN := by rw [e1]; decide
    rcases hNI with ⟨r1, r2⟩ | ⟨k, k1, k2, k3, k4⟩
    · rw [if_pos (Or.inl (by rw [r1]; decide)), if_pos (Or.inl (by rw [r1]; decide))]
      refine Or.inl ⟨e1, fun j p hj hp => ?_⟩
      by_cases e : j = n
      · rw [e, c2 p hp, HS_keep nE r2 (d + 1) (Nat.le_refl _) p hp]; exact nE p hp
      · rw [c1 j p (by omega) hp]; exact e2 j p (by omega) hp
    · have hak := an_le hf hr hn8 hi k
      have rn : ¬ (r < 0 ∨ 0 ≤ eN) := fun q => by
        rcases q with q | q
        · rw [k2] at q; exact nI_pos (by omega) q
        · exact n0 q
      rw [if_neg rn, if_neg rn]
      have hk := HS_keep nE k4
      have cl : (nI s).toNatClampNeg = s := nI_cl (by omega)
      have eqL : ∀ m, m ≤ k → (LSS P (upd by_ n (nI s)) cells' (upd former n (nI i)) pt tk n (an former m i) ↔ GRW P cells (an former m i) (HS P cells former i h m)) := fun m hm => by
        have ham := an_le hf hr hn8 hi m
        unfold LSS GRW NAB
        rw [show an (upd former n (nI i)) 1 n = i from an_new hf hr hn8 hi 0, pk_us, cl]
        constructor
        · rintro ⟨h1, p, hp, h2⟩
          refine ⟨fun p hp => ?_, p, hp, ?_, ?_⟩
          · have := h1 p hp
            rw [c1 _ p (by omega) hp, c1 i p hi hp, ← hv p hp] at this
            rw [hk m hm p hp]; exact this
          · rw [hk m hm p hp]; exact nE p hp
          · rw [c1 _ p (by omega) hp, c1 i p hi hp, ← hv p hp] at h2
            rw [hk m hm p hp]; exact h2
        · rintro ⟨h1, p, hp, -, h2⟩
          refine ⟨fun p hp => ?_, p, hp, ?_⟩
          · rw [c1 _ p (by omega) hp, c1 i p hi hp, ← hv p hp, ← hk m hm p hp]; exact h1 p hp
          · rw [c1 _ p (by omega) hp, c1 i p hi hp, ← hv p hp, ← hk m hm p hp]; exact h2
      refine Or.inr ⟨n, k, by omega, by omega, rfl, ?_, fun j p hj hp => ?_, ?_, fun m hm => ?_, ?_⟩
      · rw [an_new hf hr hn8 hi k]; exact k2
      · rw [c1 j p hj hp]; exact e2 j p hj hp
      · obtain ⟨g1, p, hp, g2, g3⟩ := k3
        refine ⟨p, hp, ?_⟩
        rw [c2 p hp]
        have : HS P cells former i h (k + 1) p = 2147483647 := st1_end g1 hp g3
        have := HS_end this (d - k)
        rw [show k + 1 + (d - k) = d + 1 by omega] at this
        exact this
      · rw [an_new hf hr hn8 hi m]
        exact fun w => k4 m hm ((eqL m (by omega)).mp w)
      · rw [an_new hf hr hn8 hi k]
        exact (eqL k (Nat.le_refl k)).mpr k3
  · have p0 : (0 : Int32) ≤ eN := by rw [z3]; exact nI_pos' (by omega)
    rw [if_pos (Or.inr p0), if_pos (Or.inr p0)]
    have ho : ∀ m, an (upd former n (nI i)) m i0 = an former m i0 := an_upd hf hr hn8 z2
    have hl : ∀ m, an former m i0 ≤ i0 := an_le hf hr hn8 z2
    have eqL : ∀ m, (LSS P (upd by_ n (nI s)) cells' (upd former n (nI i)) pt tk i0 (an former m i0) ↔ LSS P by_ cells former pt tk i0 (an former m i0)) := fun m => by
      have := hl m
      have h1 := hl 1
      exact LSS_same z2 (by omega) (pk_un (by omega)) (ho 1) (by omega) c1
    refine Or.inr ⟨i0, k0, z1, by omega, z3, ?_, fun j p hj hp => ?_, ?_, fun m hm => ?_, ?_⟩
    · rw [ho]; exact z4
    · rw [c1 j p (by omega) hp]; exact z5 j p hj hp
    · obtain ⟨p, hp, q⟩ := z6
      exact ⟨p, hp, by rw [c1 i0 p z2 hp]; exact q⟩
    · rw [ho]; exact fun w => z7 m hm ((eqL _).mp w)
    · rw [ho]; exact (eqL _).mpr z8
/-- whether a node is in the list before -/
def DUP (P : Nat) (cells : Nat → Int32) (j : Nat) : Prop := ∃ k, k < j ∧ ∀ p, p < P → cells (k * P + p) = cells (j * P + p)
theorem addChild_spec {P n : Nat} {a1 a2 : Int32} {leaves by_ cells former heads links h : Nat → Int32} {post : Int32 → (Nat → Int32) → (Nat → Int32) → (Nat → Int32) → (Nat → Int32) → (Nat → Int32) → (Nat → Int32) → Prop} (hP : P ≤ 16) (hn : n < 2000) (hX : hx P n cells heads links)
    (k : ∀ b cells' heads' links', (∀ j p, j < n → p < P → cells' (j * P + p) = cells (j * P + p)) → (∀ p, p < P → cells' (n * P + p) = h p) → hx P (n + 1) cells' heads' links' → ((b = 1 ∧ DUP P cells' n) ∨ (b = 0 ∧ ¬ DUP P cells' n)) → post (nI (n + 1)) (upd leaves n b) (upd by_ n a2) cells' (upd former n a1) heads' links') : w_X8_addChild 2000 (nI n) (nI P) h leaves by_ cells former heads links a1 a2 post := by
  have hin : vp_in (nI n) 2000 := vp_in_nI hn (by omega)
  refine indexOf_spec hP (by omega) (by omega) hX (fun i hi hsm => ff (nI_pos (by omega)) ⟨hin, ?_⟩) (fun hno => tt (by decide) ⟨hin, ?_⟩)
  · refine add_spec hP (by omega) hn hX (fun cells' heads' links' c1 c2 c3 => ?_)
    rw [nI_cl (n := n) (by omega)]
    refine k 1 cells' heads' links' c1 c2 c3 (Or.inl ⟨rfl, i, hi, fun p hp => ?_⟩)
    rw [c1 i p hi hp, c2 p hp]; exact hsm p hp
  · refine add_spec hP (by omega) hn hX (fun cells' heads' links' c1 c2 c3 => ?_)
    rw [nI_cl (n := n) (by omega)]
    refine k 0 cells' heads' links' c1 c2 c3 (Or.inr ⟨rfl, fun ⟨i, hi, q⟩ => hno i hi (fun p hp => ?_)⟩)
    rw [← c1 i p hi hp, q p hp, c2 p hp]
def tX (P S n : Nat) (eN eB : Int32) (by_ cells former heads links leaves pt tk : Nat → Int32) : Prop :=
  (1 ≤ n ∧ n ≤ 2000) ∧
  (∀ j p, j < n → p < P → cells (j * P + p) = 2147483647 ∨ ∃ v : Nat, cells (j * P + p) = nI v ∧ v ≤ 1000000000 + 9 * j) ∧
  (former 0 = NONE ∧ by_ 0 = NONE) ∧
  (∀ j, 0 < j → j < n → ∃ a t : Nat, a < j ∧ t < S ∧ former j = nI a ∧ by_ j = nI t) ∧
  hx P n cells heads links ∧
  (∀ j, j < n → (leaves j = 1 ∧ DUP P cells j) ∨ (leaves j = 0 ∧ ¬ DUP P cells j)) ∧
  tEnd P n eN eB by_ cells former pt tk
def tM (P n i : Nat) (by_ cells former leaves mabove mstep mleaf mnodes : Nat → Int32) : Prop :=
  (∀ j p, j < n → p < P → EV (cells (j * P + p)) (mnodes (16 * j + p))) ∧
  (∀ j, j < n → former j = mabove j ∧ by_ j = mstep j) ∧
  (∀ j, j < i → leaves j = mleaf j)
theorem DUP_same {P n j : Nat} {cells cells' : Nat → Int32} (c1 : ∀ j p, j < n → p < P → cells' (j * P + p) = cells (j * P + p)) (hj : j < n) : DUP P cells' j ↔ DUP P cells j :=
  ⟨fun ⟨k, hk, q⟩ => ⟨k, hk, fun p hp => by rw [← c1 k p (by omega) hp, ← c1 j p hj hp]; exact q p hp⟩, fun ⟨k, hk, q⟩ => ⟨k, hk, fun p hp => by rw [c1 k p (by omega) hp, c1 j p hj hp]; exact q p hp⟩⟩
