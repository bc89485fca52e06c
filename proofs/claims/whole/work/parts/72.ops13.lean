/-! ===== a going: both sides stay alike ===== -/
theorem chg_val {v u n : Nat} (h : n ≤ v) : nI v + (nI u - nI n) = nI (v - n + u) := by rw [← i_re, pk_sub h, nI_add]
theorem cCount_0 {pk : Nat → Int32} : ∀ n, cCount pk n = 0 → ∀ p, p < n → ¬ pk p = 1
  | 0, _, p, hp => absurd hp (by omega)
  | n + 1, h, p, hp => by
    have h : cCount pk n + (if pk n = 1 then 1 else 0) = 0 := h
    by_cases e : p = n
    · subst e; intro q; rw [if_pos q] at h; omega
    · exact cCount_0 n (by omega) p (by omega)
theorem co_0 {P S : Nat} {pk sk tk pt nd cl wt gf tf pi hd : Nat → Int32} {co : Int32} (hN : cNet P S pk sk tk pt nd cl wt gf tf pi hd co) (h : co = 0) : ∀ p, p < P → ¬ pk p = 1 := by
  have e := hN.2.2.2.2.2.2.2.2.2.2.2.2.2.2
  have b := cCount_le pk P
  have hP := hN.1.1
  rw [h] at e
  exact cCount_0 P ((nI_z (by omega)).mp e.symm)
theorem co_le {P S : Nat} {pk sk tk pt nd cl wt gf tf pi hd : Nat → Int32} {co : Int32} (hN : cNet P S pk sk tk pt nd cl wt gf tf pi hd co) : co ≤ 0 ↔ co = 0 := by
  have e := hN.2.2.2.2.2.2.2.2.2.2.2.2.2.2
  have b := cCount_le pk P
  have hP := hN.1.1
  rw [e]
  exact nI_le0 (by omega)
theorem cNow_congr {P : Nat} {pk many many' has has' mth mth' : Nat → Int32} {things things' : Nat → Int64} (h : cNow P pk many things has mth) (e1 : ∀ p, p < 16 → many' p = many p) (e2 : ∀ p, p < 16 → things' p = things p) (e3 : ∀ p, p < 16 → has' p = has p) (e4 : ∀ i, i < 320 → mth' i = mth i) : cNow P pk many' things' has' mth' := by
  intro p hp
  obtain ⟨w1, v, w2, w3, w4, w5⟩ := h p hp
  rw [e1 p hp, e2 p hp, e3 p hp]
  refine ⟨w1, v, w2, w3, w4, fun a b => ?_⟩
  obtain ⟨u1, t, u2, u3, u4⟩ := w5 a b
  exact ⟨u1, t, u2, u3, fun i hi => by rw [e4 _ (by omega)]; exact u4 i hi⟩
theorem cNow_has {P : Nat} {pk many has mth : Nat → Int32} {things : Nat → Int64} (h : cNow P pk many things has mth) : cNow P pk has things has mth := cNow_congr h (fun p hp => (h p hp).1.symm) (fun _ _ => rfl) (fun _ _ => rfl) (fun _ _ => rfl)
/-- what a coloured place holds before a step that may go there, and the room -/
theorem may_room {P S s p : Nat} {pk sk tk pt nd cl wt gf tf pi hd many has mth : Nat → Int32} {things : Nat → Int64} {co : Int32} (hN : cNet P S pk sk tk pt nd cl wt gf tf pi hd co) (hW : cNow P pk many things has mth) (hs : s < 16) (hM : MAY P pk tk nd cl wt has mth s) (hR : ∀ p, p < P → RM pk tk pt has s p) (hp : p < P) (c : pk p = 1) :
    ∃ v t n u k : Nat, many p = nI v ∧ has p = nI v ∧ v ≤ 20 ∧ things p = lN t ∧ t < 4 ^ v ∧ (∀ i, i < v → mth (20 * p + i) = nI (t / 4 ^ i % 4)) ∧ tk (16 * s + p) = nI n ∧ n ≤ 9 ∧ pt (16 * s + p) = nI u ∧ u ≤ 9 ∧ gf (16 * s + p) = nI k ∧ k ≤ 3 ∧ n ≤ v ∧ (mv (fun i => t / 4 ^ i % 4) (wt (16 * s + p)) n v).2.length + n = v ∧ v - n + u ≤ 20 := by
  obtain ⟨⟨hP16, hS16⟩, n1, n2, n3, n4, n5, n6, n7, n8, n9, n10, n11, n12, n13, n14⟩ := hN
  obtain ⟨e, v, ev, bv, -, h5⟩ := hW p (by omega)
  obtain ⟨u1, t, u2, u3, u4⟩ := h5 hp c
  obtain ⟨n, hn, en⟩ := n3 (16 * s + p) (by omega)
  obtain ⟨u, hu, eu⟩ := n4 (16 * s + p) (by omega)
  obtain ⟨k, hk, ek⟩ := n8 (16 * s + p) (by omega)
  have ha := (hM p hp).2.2.2.resolve_left (by rw [c]; decide)
  have hcnt : cntM has wt mth s p = cW t (wt (16 * s + p)) v := by
    show cM mth (wt (16 * s + p)) p (has p).toNatClampNeg = _
    rw [ev, nI_cl (by omega)]
    exact cW_cM v u4
  have hle := cM_le (p := p) (w := wt (16 * s + p)) (mth := mth) v
  rw [cW_cM v u4] at hle
  rw [hcnt, en] at ha
  have hn2 : n ≤ cW t (wt (16 * s + p)) v := by
    rcases Nat.lt_or_ge (cW t (wt (16 * s + p)) v) n with q | q
    · exact absurd (nI_lt q (by omega)) ha
    · exact q
  have hd := mv_done (a := fun i => t / 4 ^ i % 4) (w := wt (16 * s + p)) (n := n) (v := v) (by rw [cA_cW]; exact hn2)
  have hr := hR p hp
  unfold RM at hr
  rw [if_pos c, ev, en, eu, chg_val (by omega)] at hr
  have hr2 : v - n + u ≤ 20 := (nI_leI (a := v - n + u) (b := 20) (by omega) (by omega)).mp hr
  exact ⟨v, t, n, u, k, e.trans ev, ev, u1, u2, u3, u4, en, hn, eu, hu, ek, hk, by omega, hd.2, hr2⟩
theorem carryX {P S s E K : Nat} {g co : Int32} {pk sk tk pt nd cl wt gf tf pi hd many has mth steps : Nat → Int32} {things pth : Nat → Int64} {post : Int32 → Int32 → Int32 → (Nat → Int32) → (Nat → Int64) → (Nat → Int32) → (Nat → Int64) → Prop} (hN : cNet P S pk sk tk pt nd cl wt gf tf pi hd co) (hW : cNow P pk many things has mth) (hs : s < 16) (hM : MAY P pk tk nd cl wt has mth s) (hR : ∀ p, p < P → RM pk tk pt has s p) (hE : E < 256) (hK : K ≤ 256)
    (h : ∀ pth' m' t', (co ≤ 0 → pth' = pth) → (¬ co ≤ 0 → ∀ q, pth' q = if 16 * E ≤ q ∧ q < 16 * E + 16 then things (q - 16 * E) else pth q) → (∀ p, p < P → mvX pk tk pt wt gf s many things m' t' p) → (∀ p, P ≤ p → m' p = many p ∧ t' p = things p) → post (g + 1) (nI ((E + 1) % 256)) (nI (if K = 256 then 256 else K + 1)) m' t' (upd steps E (nI s)) pth') :
    w_X9_carryOut g co (nI P) (nI E) (nI K) gf pk pt pi tk tf wt many things steps pth (nI s) post := by
  refine note_spec hE hK (fun pth' a1 a2 => move_gen hN.1.1 hs (hN.2.2.2.2.2.2.2.2.2.2.2.1 s hs) (hN.2.2.2.2.2.2.2.2.2.2.2.2.1 s hs) (fun p hp => ?_) (fun m' t' b1 b2 => nm (h pth' m' t' a1 a2 b1 b2)))
  rcases hN.2.1 p hp with c | c
  · exact Or.inl c
  · obtain ⟨v, t, n, u, k, r1, r2, r3, r4, r5, r6, r7, r8, r9, r10, r11, r12, r13, r14, r15⟩ := may_room hN hW hs hM hR hp c
    exact Or.inr ⟨c, v, t, n, u, k, r1, r3, r4, r5, r7, r8, r9, r10, r11, r12, by omega⟩
theorem dig_small (t i : Nat) : t / 4 ^ i % 4 ≤ 3 := by omega
/-- what the reference makes of a place -/
def mvM (pk tk pt wt gf : Nat → Int32) (s : Nat) (has mth has' mth' : Nat → Int32) (p : Nat) : Prop :=
  (pk p = 0 → has' p = has p + (pt (16 * s + p) - tk (16 * s + p))) ∧
  (pk p = 1 → ∃ (v n u k : Nat) (a : Nat → Nat), has p = nI v ∧ v ≤ 20 ∧ (∀ i, i < v → mth (20 * p + i) = nI (a i) ∧ a i ≤ 3) ∧ tk (16 * s + p) = nI n ∧ n ≤ 9 ∧ pt (16 * s + p) = nI u ∧ u ≤ 9 ∧ gf (16 * s + p) = nI k ∧ k ≤ 3 ∧ (mv a (wt (16 * s + p)) n v).2.length + u ≤ 20 ∧ has' p = nI ((mv a (wt (16 * s + p)) n v).2 ++ List.replicate u k).length ∧ ∀ i, i < (mv a (wt (16 * s + p)) n v).2.length + u → mth' (20 * p + i) = nI (((mv a (wt (16 * s + p)) n v).2 ++ List.replicate u k).getD i 0))
theorem carryM {P S s F K : Nat} {g co : Int32} {pk sk tk pt nd cl wt gf tf pi hd many has mth ph ps pts : Nat → Int32} {things : Nat → Int64} {post : Int32 → Int32 → Int32 → (Nat → Int32) → (Nat → Int32) → (Nat → Int32) → (Nat → Int32) → (Nat → Int32) → Prop} (hN : cNet P S pk sk tk pt nd cl wt gf tf pi hd co) (hW : cNow P pk many things has mth) (hs : s < 16) (hM : MAY P pk tk nd cl wt has mth s) (hR : ∀ p, p < P → RM pk tk pt has s p) (hF : F < 256) (hK : K ≤ 256)
    (h : ∀ ph' pts' h' m', (∀ q, ph' q = if 16 * ((F + K) % 256) ≤ q ∧ q < 16 * ((F + K) % 256) + 16 then has (q - 16 * ((F + K) % 256)) else ph q) → (∀ q, pts' q = if 320 * ((F + K) % 256) ≤ q ∧ q < 320 * ((F + K) % 256) + 320 then mth (q - 320 * ((F + K) % 256)) else pts q) → (∀ p, p < P → mvM pk tk pt wt gf s has mth h' m' p) → (∀ p, P ≤ p → h' p = has p) → post (g + 1) (nI (if K = 256 then 256 else K + 1)) (nI (if K = 256 then (F + 1) % 256 else F)) h' ph' (upd ps ((F + K) % 256) (nI s)) pts' m') :
    w_X10_goNow g (nI K) (nI F) (nI P) pk gf has ph ps pts pt tk mth wt (nI s) post := by
  refine keep_spec hF hK (fun ph' pts' a1 a2 => nm (goM_spec hN.1.1 hs (fun p hp => ?_) (fun x' h' m' b1 b2 b3 => h ph' pts' h' m' a1 a2 (fun p hp => ⟨b1 p hp, b2 p hp⟩) b3)))
  rcases hN.2.1 p hp with c | c
  · exact Or.inl c
  · obtain ⟨v, t, n, u, k, r1, r2, r3, r4, r5, r6, r7, r8, r9, r10, r11, r12, r13, r14, r15⟩ := may_room hN hW hs hM hR hp c
    exact Or.inr ⟨c, v, n, u, k, fun i => t / 4 ^ i % 4, r2, r3, fun i hi => ⟨r6 i hi, dig_small t i⟩, r7, r8, r9, r10, r11, r12, by omega⟩
theorem mv_congr {a b : Nat → Nat} {w : Int32} {n : Nat} : ∀ v, (∀ i, i < v → a i = b i) → mv a w n v = mv b w n v
  | 0, _ => rfl
  | v + 1, h => by
    have ih := mv_congr (w := w) (n := n) v (fun i hi => h i (by omega))
    show (if 0 < (mv a w n v).1 ∧ ofKb (nI (a v)) w = true then ((mv a w n v).1 - 1, (mv a w n v).2) else ((mv a w n v).1, (mv a w n v).2 ++ [a v])) = (if 0 < (mv b w n v).1 ∧ ofKb (nI (b v)) w = true then ((mv b w n v).1 - 1, (mv b w n v).2) else ((mv b w n v).1, (mv b w n v).2 ++ [b v]))
    rw [ih, h v (by omega)]
theorem pack_range {t : Nat} : ∀ {v : Nat}, t < 4 ^ v → t = pack ((List.range v).map (fun i => t / 4 ^ i % 4)) := by
  intro v
  have key : ∀ v, pack ((List.range v).map (fun i => t / 4 ^ i % 4)) = t % 4 ^ v := by
    intro v
    induction v with
    | zero => show 0 = t % 1; omega
    | succ v ih =>
      rw [List.range_succ, List.map_append, List.map_cons, List.map_nil, pack_app, ih, List.length_map, List.length_range, Nat.pow_succ, Nat.mod_mul]
      rw [Nat.mul_comm]
  intro h
  rw [key, Nat.mod_eq_of_lt h]
theorem mvX_col {P S s p v t n u k : Nat} {co : Int32} {pk sk tk pt nd cl wt gf tf pi hd many has mth m' : Nat → Int32} {things t' : Nat → Int64} (hN : cNet P S pk sk tk pt nd cl wt gf tf pi hd co) (hW : cNow P pk many things has mth) (hs : s < 16) (hM : MAY P pk tk nd cl wt has mth s) (hR : ∀ p, p < P → RM pk tk pt has s p) (hp : p < P) (c : pk p = 1) (r1 : many p = nI v) (r2 : has p = nI v) (r3 : v ≤ 20) (r4 : things p = lN t) (r5 : t < 4 ^ v) (r7 : tk (16 * s + p) = nI n) (r8 : n ≤ 9) (r9 : pt (16 * s + p) = nI u) (r10 : u ≤ 9) (r11 : gf (16 * s + p) = nI k) (r12 : k ≤ 3) (r13 : n ≤ v) (r14 : (mv (fun i => t / 4 ^ i % 4) (wt (16 * s + p)) n v).2.length + n = v) (x1 : mvX pk tk pt wt gf s many things m' t' p) :
    m' p = nI ((mv (fun i => t / 4 ^ i % 4) (wt (16 * s + p)) n v).2 ++ List.replicate u k).length ∧ t' p = lN (pack ((mv (fun i => t / 4 ^ i % 4) (wt (16 * s + p)) n v).2 ++ List.replicate u k)) := by
  rcases x1 with ⟨k1, k2, k3', k4⟩ | ⟨k1, -⟩ | ⟨-, k1⟩
  · have g1 : n = 0 := (nI_z (by omega)).mp (r7.symm.trans k1)
    have g2 : u = 0 := (nI_z (by omega)).mp (r9.symm.trans k2)
    subst g1 g2
    have hlen : ((mv (fun i => t / 4 ^ i % 4) (wt (16 * s + p)) 0 v).2 ++ List.replicate 0 k).length = v := by
      rw [List.length_append, List.length_replicate]; omega
    refine ⟨?_, ?_⟩
    · rw [hlen, k3', r1]
    · rw [k4, r4, mv_0, List.replicate_zero, List.append_nil]; exact congrArg lN (pack_range r5)
  · rw [c] at k1; exact absurd k1 (by decide)
  · exact k1 v t n u k r1 r3 r4 r5 r7 r8 r9 r10 r11 r12
theorem mvX_plain {P S s p : Nat} {co : Int32} {pk sk tk pt nd cl wt gf tf pi hd many has mth m' : Nat → Int32} {things t' : Nat → Int64} (hN : cNet P S pk sk tk pt nd cl wt gf tf pi hd co) (hW : cNow P pk many things has mth) (hp : p < P) (c : pk p = 0) (x1 : mvX pk tk pt wt gf s many things m' t' p) : m' p = has p + (pt (16 * s + p) - tk (16 * s + p)) ∧ t' p = things p := by
  have hP16 := hN.1.1
  obtain ⟨e, v, ev, bv, -⟩ := hW p (by omega)
  rcases x1 with ⟨k1, k2, k3, k4⟩ | ⟨-, k3, k4⟩ | ⟨k1, -⟩
  · refine ⟨?_, k4⟩
    rw [k3, e, k1, k2]
    show has p = has p + (0 - 0)
    rw [Int32.sub_self, Int32.add_zero]
  · refine ⟨?_, k4⟩
    rw [k3, if_neg, e]
    rw [e, ev]
    intro q
    have := (nI_eq (a := v) (b := 2147483647) (by omega) (by omega)).mp q
    omega
  · rw [c] at k1; exact absurd k1 (by decide)
/-- there is such a state of the reference -/
theorem mvM_ex {P S s : Nat} {co : Int32} {pk sk tk pt nd cl wt gf tf pi hd many has mth m' : Nat → Int32} {things t' : Nat → Int64} (hN : cNet P S pk sk tk pt nd cl wt gf tf pi hd co) (hW : cNow P pk many things has mth) (hs : s < 16) (hM : MAY P pk tk nd cl wt has mth s) (hR : ∀ p, p < P → RM pk tk pt has s p) (x1 : ∀ p, p < P → mvX pk tk pt wt gf s many things m' t' p) :
    ∃ h' mth' : Nat → Int32, (∀ p, p < P → mvM pk tk pt wt gf s has mth h' mth' p) ∧ ∀ p, P ≤ p → h' p = has p := by
  refine ⟨fun p => if p < P then m' p else has p, fun j => nI ((t' (j / 20)).toBitVec.toNat / 4 ^ (j % 20) % 4), fun p hp => ⟨fun c => ?_, fun c => ?_⟩, fun p hp => if_neg (by omega)⟩
  · show (if p < P then m' p else has p) = _
    rw [if_pos hp]
    exact (mvX_plain hN hW hp c (x1 p hp)).1
  · obtain ⟨v, t, n, u, k, r1, r2, r3, r4, r5, r6, r7, r8, r9, r10, r11, r12, r13, r14, r15⟩ := may_room hN hW hs hM hR hp c
    have hX := mvX_col hN hW hs hM hR hp c r1 r2 r3 r4 r5 r7 r8 r9 r10 r11 r12 r13 r14 (x1 p hp)
    have hlen : ((mv (fun i => t / 4 ^ i % 4) (wt (16 * s + p)) n v).2 ++ List.replicate u k).length = v - n + u := by
      rw [List.length_append, List.length_replicate]; omega
    have hsm : ∀ x ∈ (mv (fun i => t / 4 ^ i % 4) (wt (16 * s + p)) n v).2 ++ List.replicate u k, x ≤ 3 := fun x hx => by
      rcases List.mem_append.mp hx with q | q
      · exact mv_small v (fun j _ => dig_small t j) x q
      · rw [(List.mem_replicate.mp q).2]; exact r12
    refine ⟨v, n, u, k, fun i => t / 4 ^ i % 4, r2, r3, fun i hi => ⟨r6 i hi, dig_small t i⟩, r7, r8, r9, r10, r11, r12, by omega, ?_, fun i hi => ?_⟩
    · show (if p < P then m' p else has p) = _
      rw [if_pos hp]; exact hX.1
    · show nI ((t' ((20 * p + i) / 20)).toBitVec.toNat / 4 ^ ((20 * p + i) % 20) % 4) = _
      have hi' : i < v - n + u := by omega
      rw [show (20 * p + i) / 20 = p by omega, show (20 * p + i) % 20 = i by omega, hX.2, wb_tn, pack_dig _ i hsm (by rw [hlen]; exact hi')]
      have h1 := pack_lt _ hsm
      rw [hlen] at h1
      have := pow40 r15 h1
      omega
/-- the marking after it -/
theorem carry_now {P S s : Nat} {co : Int32} {pk sk tk pt nd cl wt gf tf pi hd many has mth m' h' mth' : Nat → Int32} {things t' : Nat → Int64} (hN : cNet P S pk sk tk pt nd cl wt gf tf pi hd co) (hW : cNow P pk many things has mth) (hs : s < 16) (hM : MAY P pk tk nd cl wt has mth s) (hR : ∀ p, p < P → RM pk tk pt has s p)
    (x1 : ∀ p, p < P → mvX pk tk pt wt gf s many things m' t' p) (x2 : ∀ p, P ≤ p → m' p = many p ∧ t' p = things p) (y1 : ∀ p, p < P → mvM pk tk pt wt gf s has mth h' mth' p) (y2 : ∀ p, P ≤ p → h' p = has p) :
    cNow P pk m' t' h' mth' ∧ ∀ p, p < P → h' p = has p + (pt (16 * s + p) - tk (16 * s + p)) := by
  have key : ∀ p, p < 16 → (m' p = h' p ∧ ∃ v : Nat, h' p = nI v ∧ v ≤ 1000000000 ∧ (P ≤ p → v = 0 ∧ t' p = 0) ∧ (p < P → pk p = 1 → v ≤ 20 ∧ ∃ t : Nat, t' p = lN t ∧ t < 4 ^ v ∧ ∀ i, i < v → mth' (20 * p + i) = nI (t / 4 ^ i % 4))) ∧ (p < P → h' p = has p + (pt (16 * s + p) - tk (16 * s + p))) := by
    intro p hp
    obtain ⟨e, v, ev, bv, h4, h5⟩ := hW p hp
    rcases Nat.lt_or_ge p P with hpP | hpP
    · rcases hN.2.1 p hpP with c | c
      · have em := (y1 p hpP).1 c
        obtain ⟨n, hn, en⟩ := hN.2.2.2.1 (16 * s + p) (by omega)
        obtain ⟨u, hu, eu⟩ := hN.2.2.2.2.1 (16 * s + p) (by omega)
        have hnv : n ≤ v := by
          have := (hM p hpP).1
          rw [ev, en] at this
          rcases Nat.lt_or_ge v n with q | q
          · exact absurd (nI_lt q (by omega)) this
          · exact q
        have hr := hR p hpP
        unfold RM at hr
        rw [if_neg (by rw [c]; decide), ev, en, eu, chg_val hnv] at hr
        have hr2 : v - n + u ≤ 1000000000 := (nI_leI (a := v - n + u) (b := 1000000000) (by omega) (by omega)).mp hr
        have ex : m' p = has p + (pt (16 * s + p) - tk (16 * s + p)) ∧ t' p = things p := by
          rcases x1 p hpP with ⟨k1, k2, k3, k4⟩ | ⟨-, k3, k4⟩ | ⟨k1, -⟩
          · refine ⟨?_, k4⟩
            rw [k3, e, k1, k2]
            show has p = has p + (0 - 0)
            rw [Int32.sub_self, Int32.add_zero]
          · refine ⟨?_, k4⟩
            rw [k3, if_neg, e]
            rw [e, ev]
            intro q
            have := (nI_eq (a := v) (b := 2147483647) (by omega) (by omega)).mp q
            omega
          · rw [c] at k1; exact absurd k1 (by decide)
        refine ⟨⟨ex.1.trans em.symm, v - n + u, ?_, hr2, fun q => absurd q (by omega), fun _ q => ?_⟩, fun _ => em⟩
        · rw [em, ev, en, eu, chg_val hnv]
        · rw [c] at q; exact absurd q (by decide)
      · obtain ⟨v2, t, n, u, k, r1, r2, r3, r4, r5, r6, r7, r8, r9, r10, r11, r12, r13, r14, r15⟩ := may_room hN hW hs hM hR hpP c
        obtain ⟨v3, n3, u3, k3, a, q1, q2, q3, q4, q5, q6, q7, q8, q9, q10, q11, q12⟩ := (y1 p hpP).2 c
        have e1 : v3 = v2 := nI_inj (by omega) (by omega) (q1.symm.trans r2)
        have e2 : n3 = n := nI_inj (by omega) (by omega) (q4.symm.trans r7)
        have e3 : u3 = u := nI_inj (by omega) (by omega) (q6.symm.trans r9)
        have e4 : k3 = k := nI_inj (by omega) (by omega) (q8.symm.trans r11)
        subst e1 e2 e3 e4
        have ea : ∀ i, i < v3 → a i = t / 4 ^ i % 4 := fun i hi => by
          have h1 := (q3 i hi).2
          have h2 := dig_small t i
          exact nI_inj (by omega) (by omega) ((q3 i hi).1.symm.trans (r6 i hi))
        have hl := mv_congr (w := wt (16 * s + p)) (n := n3) v3 ea
        rw [hl] at q10 q11 q12
        have hlen : ((mv (fun i => t / 4 ^ i % 4) (wt (16 * s + p)) n3 v3).2 ++ List.replicate u3 k3).length = v3 - n3 + u3 := by
          rw [List.length_append, List.length_replicate]; omega
        have hsm : ∀ x ∈ (mv (fun i => t / 4 ^ i % 4) (wt (16 * s + p)) n3 v3).2 ++ List.replicate u3 k3, x ≤ 3 := fun x hx => by
          rcases List.mem_append.mp hx with q | q
          · exact mv_small v3 (fun j _ => dig_small t j) x q
          · rw [(List.mem_replicate.mp q).2]; exact r12
        have eh : h' p = has p + (pt (16 * s + p) - tk (16 * s + p)) := by
          rw [q11, hlen, r2, r7, r9, chg_val r13]
        have hX := mvX_col hN hW hs hM hR hpP c r1 r2 r3 r4 r5 r7 r8 r9 r10 r11 r12 r13 r14 (x1 p hpP)
        refine ⟨⟨hX.1.trans q11.symm, v3 - n3 + u3, by rw [q11, hlen], by omega, fun q => absurd q (by omega), fun _ _ => ⟨r15, _, hX.2, by have := pack_lt _ hsm; rw [hlen] at this; exact this, fun i hi => ?_⟩⟩, fun _ => eh⟩
        rw [q12 i (by rw [← List.length_replicate (n := u3) (a := k3), ← List.length_append, hlen]; exact hi), pack_dig _ i hsm (by rw [hlen]; exact hi)]
    · obtain ⟨z1, z2⟩ := h4 hpP
      refine ⟨⟨?_, v, ?_, bv, fun _ => ⟨z1, ?_⟩, fun q => absurd q (by omega)⟩, fun q => absurd q (by omega)⟩
      · rw [(x2 p hpP).1, y2 p hpP]; exact e
      · rw [y2 p hpP]; exact ev
      · rw [(x2 p hpP).2]; exact z2
  exact ⟨fun p hp => (key p hp).1, fun p hp => (key p (by have := hN.1.1; omega)).2 hp⟩
