theorem ixA (a b : Nat) : (16 : Int32) * nI a + nI b = nI (16 * a + b) := by
  rw [show (16 : Int32) = nI 16 from rfl, pk_mul, nI_add]
theorem ixC (a b : Nat) : nI a * (16 : Int32) + nI b = nI (16 * a + b) := by
  rw [show (16 : Int32) = nI 16 from rfl, pk_mul, nI_add, Nat.mul_comm]
theorem ixB (a w b : Nat) : nI a * nI w + nI b = nI (a * w + b) := by rw [pk_mul, nI_add]
theorem ixT (a b : Nat) : (20 : Int32) * nI a + nI b = nI (20 * a + b) := by
  rw [show (20 : Int32) = nI 20 from rfl, pk_mul, nI_add]
theorem p_43 : St_43 Inw := by
  intro XI XA XL MI MA ML hI a1 a2
  obtain ⟨P, S, hq, hN, hW, hPa, hH, hg, hF, hT, ⟨n, hn, e1, e2, hf⟩, hb2, hs⟩ := id hI
  have hP16 : P ≤ 16 := hN.1.1
  unfold ls_43 w_X9_weight w_X10_weight w_X0_numberAt
  rw [e1, e2, hq.1, hq.2.1]
  rcases ix3 a2 P (by omega) with h | ⟨p, hp, rfl, h1, h2⟩
  · refine hasPlace_no h (z0 ?_)
    rcases ix3 a1 n (by omega) with g | ⟨k, hk, rfl, g1, g2⟩
    · exact isInM_no (by omega) g (z0 ⟨rfl, hI⟩)
    · exact isInM_yes (by omega) hk (z1 (isPlace_no h (z0 ⟨rfl, hI⟩)))
  · refine hasPlace_yes h1 h2 (z1 ?_)
    rcases ix3 a1 n (by omega) with g | ⟨k, hk, rfl, g1, g2⟩
    · exact has_no g (z0 (isInM_no (by omega) g (z0 ⟨rfl, hI⟩)))
    · have hin : vp_in (nI (16 * k + p)) 256 := vp_in_nI (by omega) (by omega)
      refine has_yes g1 g2 (z1 ?_)
      rw [ixC]
      refine ⟨hin, isInM_yes (by omega) hk (z1 (isPlace_yes h1 h2 (z1 ?_)))⟩
      rw [ixA]
      exact ⟨hin, by rw [nI_cl (by omega)]; exact hf k p hk hp, hI⟩
theorem p_45 : St_45 Inw := by
  intro XI XA XL MI MA ML hI a1 a2
  obtain ⟨P, S, hq, hN, hW, hPa, hH, hg, hF, hT, hb1, ⟨n, hn, e1, e2, hf⟩, hs⟩ := id hI
  have hP16 : S ≤ 16 := hN.1.2
  unfold ls_45 w_X9_round w_X10_round w_X0_numberAt
  rw [e1, e2, hq.2.2.1, hq.2.2.2.1]
  rcases ix3 a2 S (by omega) with h | ⟨p, hp, rfl, h1, h2⟩
  · refine hasStep_no h (z0 ?_)
    rcases ix3 a1 n (by omega) with g | ⟨k, hk, rfl, g1, g2⟩
    · exact isInM_no (by omega) g (z0 ⟨rfl, hI⟩)
    · exact isInM_yes (by omega) hk (z1 (isStep_no h (z0 ⟨rfl, hI⟩)))
  · refine hasStep_yes h1 h2 (z1 ?_)
    rcases ix3 a1 n (by omega) with g | ⟨k, hk, rfl, g1, g2⟩
    · exact has_no g (z0 (isInM_no (by omega) g (z0 ⟨rfl, hI⟩)))
    · have hin : vp_in (nI (16 * k + p)) 256 := vp_in_nI (by omega) (by omega)
      refine has_yes g1 g2 (z1 ?_)
      rw [ixC]
      refine ⟨hin, isInM_yes (by omega) hk (z1 (isStep_yes h1 h2 (z1 ?_)))⟩
      rw [ixA]
      exact ⟨hin, by rw [nI_cl (by omega)]; exact hf k p hk hp, hI⟩
theorem ref1_unmade {sz a : Int32} {post : Int32 → Prop} (h : post (-2000000002)) : w_X1_refusal sz 0 a post := nt rfl h
theorem ref1_no {n : Nat} {a : Int32} {post : Int32 → Prop} (g : a < 0 ∨ nI n ≤ a) (h : post (-2000000001)) : w_X1_refusal (nI n) 1 a post := by
  refine nf (by decide) ?_
  by_cases g1 : a < 0
  · exact tt g1 h
  · exact ff g1 (tt (g.resolve_left g1) h)
theorem ref1_yes {n : Nat} {a : Int32} {post : Int32 → Prop} (g1 : ¬ a < 0) (g2 : ¬ nI n ≤ a) (h : post 0) : w_X1_refusal (nI n) 1 a post := nf (by decide) (ff g1 (ff g2 h))
theorem ref8_unmade {sz a : Int32} {post : Int32 → Prop} (h : post (-2000000002)) : w_X8_refusal 0 sz a post := nt rfl h
theorem ref8_no {n : Nat} {a : Int32} {post : Int32 → Prop} (g : a < 0 ∨ nI n ≤ a) (h : post (-2000000001)) : w_X8_refusal 1 (nI n) a post := by
  refine nf (by decide) ?_
  by_cases g1 : a < 0
  · exact tt g1 h
  · exact ff g1 (tt (g.resolve_left g1) h)
theorem ref8_yes {n : Nat} {a : Int32} {post : Int32 → Prop} (g1 : ¬ a < 0) (g2 : ¬ nI n ≤ a) (h : post 0) : w_X8_refusal 1 (nI n) a post := nf (by decide) (ff g1 (ff g2 h))
theorem askF_unmade {a : Int32} {post : Int32 → Prop} (h : post (-2000000002)) : w_X10_askField 0 0 a post := nt rfl h
theorem askF_no {n : Nat} {a : Int32} {post : Int32 → Prop} (hn : n < 2 ^ 30) (g : a < 0 ∨ nI n ≤ a) (h : post (-2000000001)) : w_X10_askField (nI n) 1 a post := nf (by decide) (isInM_no hn g (z0 h))
theorem askF_yes {n j : Nat} {post : Int32 → Prop} (hn : n < 2 ^ 30) (g : j < n) (h : post 0) : w_X10_askField (nI n) 1 (nI j) post := nf (by decide) (isInM_yes hn g (z1 h))
theorem askT_unmade {a : Int32} {post : Int32 → Prop} (h : post (-2000000002)) : w_X10_askTree 0 0 a post := nt rfl h
theorem askT_no {n : Nat} {a : Int32} {post : Int32 → Prop} (hn : n < 2 ^ 30) (g : a < 0 ∨ nI n ≤ a) (h : post (-2000000001)) : w_X10_askTree 1 (nI n) a post := nf (by decide) (isInM_no hn g (z0 h))
theorem askT_yes {n j : Nat} {post : Int32 → Prop} (hn : n < 2 ^ 30) (g : j < n) (h : post 0) : w_X10_askTree 1 (nI n) (nI j) post := nf (by decide) (isInM_yes hn g (z1 h))
theorem mul_in {i n p P : Nat} (hi : i < n) (hp : p < P) (hP : P ≤ 16) : i * P + p < n * 16 := by
  have h1 : i * P + p < (i + 1) * P := by rw [Nat.succ_mul]; omega
  have h2 : (i + 1) * P ≤ n * P := Nat.mul_le_mul_right P hi
  have h3 : n * P ≤ n * 16 := Nat.mul_le_mul_left n hP
  omega
theorem p_27 : St_27 Inw := by
  intro XI XA XL MI MA ML hI a1 a2
  obtain ⟨P, S, hq, hN, hW, hPa, hH, hg, hF, -⟩ := id hI
  have hP16 : P ≤ 16 := hN.1.1
  unfold ls_27 w_X9_marking w_X10_marking w_X4_cellAt
  rw [hq.1, hq.2.1]
  rcases ix3 a2 P (by omega) with h | ⟨p, hp, rfl, h1, h2⟩
  · exact hasPlace_no h (y0 (isPlace_no h (y0 ⟨rfl, hI⟩)))
  · refine hasPlace_yes h1 h2 (y1 ?_)
    rcases hF with ⟨f1, f2, f3⟩ | ⟨f1, f2, n, f3, f4, f5, f6, f7⟩
    · rw [f1, f2, f3]
      exact ref1_unmade (ff (by decide) (isPlace_yes h1 h2 (y1 (askF_unmade (ff (by decide) ⟨rfl, hI⟩)))))
    · have hn := f7.1
      rw [f1, f2, f3, f4, f5]
      rcases ix3 a1 n (by omega) with g | ⟨k, hk, rfl, g1, g2⟩
      · exact ref1_no g (ff (by decide) (isPlace_yes h1 h2 (y1 (askF_no (by omega) g (ff (by decide) ⟨rfl, hI⟩)))))
      · refine ref1_yes g1 g2 (tt rfl ?_)
        have hx := mul_in hk hp hP16
        rw [ixB]
        refine ⟨vp_in_nI (by omega) (by omega), isPlace_yes h1 h2 (y1 (askF_yes (by omega) hk (tt (by decide) ?_)))⟩
        rw [ixA]
        exact ⟨vp_in_nI (by omega) (by omega), by rw [nI_cl (by omega), nI_cl (by omega)]; exact f7.2.1 k p hk hp, hI⟩
theorem p_28 : St_28 Inw := by
  intro XI XA XL MI MA ML hI a1 a2
  obtain ⟨P, S, hq, hN, hW, hPa, hH, hg, hF, -⟩ := id hI
  have hP16 : S ≤ 16 := hN.1.2
  unfold ls_28 w_X9_next w_X10_next w_X1_leadsFrom
  rw [hq.2.2.1, hq.2.2.2.1]
  rcases ix3 a2 S (by omega) with h | ⟨p, hp, rfl, h1, h2⟩
  · exact hasStep_no h (y0 (isStep_no h (y0 ⟨rfl, hI⟩)))
  · refine hasStep_yes h1 h2 (y1 ?_)
    rcases hF with ⟨f1, f2, f3⟩ | ⟨f1, f2, n, f3, f4, f5, f6, f7⟩
    · rw [f1, f2, f3]
      exact ref1_unmade (ff (by decide) (isStep_yes h1 h2 (y1 (askF_unmade (ff (by decide) ⟨rfl, hI⟩)))))
    · have hn := f7.1
      rw [f1, f2, f3, f4, f6]
      rcases ix3 a1 n (by omega) with g | ⟨k, hk, rfl, g1, g2⟩
      · exact ref1_no g (ff (by decide) (isStep_yes h1 h2 (y1 (askF_no (by omega) g (ff (by decide) ⟨rfl, hI⟩)))))
      · refine ref1_yes g1 g2 (tt rfl ?_)
        have hx := mul_in hk hp hP16
        rw [ixB]
        refine ⟨vp_in_nI (by omega) (by omega), isStep_yes h1 h2 (y1 (askF_yes (by omega) hk (tt (by decide) ?_)))⟩
        rw [ixA]
        exact ⟨vp_in_nI (by omega) (by omega), by rw [nI_cl (by omega), nI_cl (by omega)]; exact (f7.2.2.1 k p hk hp).1, hI⟩
theorem p_37 : St_37 Inw := by
  intro XI XA XL MI MA ML hI a1 a2
  obtain ⟨P, S, hq, hN, hW, hPa, hH, hg, hF, hT, -⟩ := id hI
  have hP16 : P ≤ 16 := hN.1.1
  unfold ls_37 w_X9_node w_X10_node w_X4_cellAt w_X9_asTold w_X10_shown
  rw [hq.1, hq.2.1]
  rcases ix3 a2 P (by omega) with h | ⟨p, hp, rfl, h1, h2⟩
  · exact hasPlace_no h (y0 (isPlace_no h (y0 ⟨rfl, hI⟩)))
  · refine hasPlace_yes h1 h2 (y1 ?_)
    rcases hT with ⟨f1, f2, f3⟩ | ⟨f1, f2, n, f3, f4, f5, f7⟩
    · rw [f1, f2, f3]
      exact ref8_unmade (ff (by decide) (isPlace_yes h1 h2 (y1 (askT_unmade (ff (by decide) ⟨rfl, hI⟩)))))
    · have hn := f7.1
      rw [f1, f2, f3, f4, f5]
      rcases ix3 a1 n (by omega) with g | ⟨k, hk, rfl, g1, g2⟩
      · exact ref8_no g (ff (by decide) (isPlace_yes h1 h2 (y1 (askT_no (by omega) g (ff (by decide) ⟨rfl, hI⟩)))))
      · refine ref8_yes g1 g2 (tt rfl ?_)
        have hx := mul_in hk hp hP16
        rw [ixB]
        refine ⟨vp_in_nI (by omega) (by omega), ?_⟩
        rw [nI_cl (by omega)]
        rcases f7.2.1 k p hk hp with ⟨c1, c2⟩ | ⟨v, hv, c1, c2⟩
        · rw [c1]
          refine nt rfl (isPlace_yes h1 h2 (y1 (askT_yes (by omega) hk (tt (by decide) ?_))))
          rw [ixA, nI_cl (by omega), c2]
          exact ⟨vp_in_nI (by omega) (by omega), ff (by decide) ⟨rfl, hI⟩⟩
        · rw [c1]
          have hne : ¬ nI v = (2147483647 : Int32) := fun q => by
            have := (nI_eq (a := v) (b := 2147483647) (by omega) (by omega)).mp q
            omega
          refine nf hne (isPlace_yes h1 h2 (y1 (askT_yes (by omega) hk (tt (by decide) ?_))))
          rw [ixA, nI_cl (by omega), c2]
          exact ⟨vp_in_nI (by omega) (by omega), tt (nI_pos' (by omega)) ⟨rfl, hI⟩⟩
theorem p_38 : St_38 Inw := by
  intro XI XA XL MI MA ML hI a1 a2
  obtain ⟨P, S, hq, hN, hW, hPa, hH, hg, hF, hT, -⟩ := id hI
  unfold ls_38 w_X9_above w_X10_above
  rcases rng a2 2 (by omega) with h | ⟨w, hw, rfl, h1, h2⟩
  · by_cases h1 : a2 < 0
    · exact tt h1 (isInR_no (n := 2) h (y0 ⟨rfl, hI⟩))
    · exact ff h1 (ff (Int32.not_le.mpr (h.resolve_left h1)) (isInR_no (n := 2) h (y0 ⟨rfl, hI⟩)))
  · refine ff h1 (tt h2 ?_)
    rcases hT with ⟨f1, f2, f3⟩ | ⟨f1, f2, n, f3, f4, f5, f7⟩
    · rw [f1, f2, f3]
      exact ref8_unmade (ff (by decide) (isInR_yes (n := 2) h1 h2 (y1 (askT_unmade (ff (by decide) ⟨rfl, hI⟩)))))
    · have hn := f7.1
      rw [f1, f2, f3, f4]
      rcases ix3 a1 n (by omega) with g | ⟨k, hk, rfl, g1, g2⟩
      · exact ref8_no g (ff (by decide) (isInR_yes (n := 2) h1 h2 (y1 (askT_no (by omega) g (ff (by decide) ⟨rfl, hI⟩)))))
      · have hin : vp_in (nI k) 2000 := vp_in_nI (by omega) (by omega)
        refine ref8_yes g1 g2 (tt rfl ?_)
        have hfm : XA 4 k = MA 0 k := by
          by_cases hk0 : k = 0
          · subst hk0; exact f7.2.2.1.1.trans f7.2.2.1.2.2.1.symm
          · obtain ⟨j, s, -, -, q1, q2, -⟩ := f7.2.2.2.1 k (by omega) hk
            exact q1.trans q2.symm
        have hby : XA 2 k = MA 28 k := by
          by_cases hk0 : k = 0
          · subst hk0; exact f7.2.2.1.2.1.trans f7.2.2.1.2.2.2.symm
          · obtain ⟨j, s, -, -, -, -, q1, q2⟩ := f7.2.2.2.1 k (by omega) hk
            exact q1.trans q2.symm
        obtain ⟨l1, l2⟩ := f7.2.2.2.2.1 k hk
        rcases (show w = 0 ∨ w = 1 ∨ w = 2 by omega) with rfl | rfl | rfl
        · refine nf (by decide) (nt rfl ⟨hin, isInR_yes (n := 2) h1 h2 (y1 (askT_yes (by omega) hk (tt (by decide) (nt rfl ⟨hin, ?_, hI⟩))))⟩)
          rw [nI_cl (by omega)]; exact hfm
        · refine nf (by decide) (nf (by decide) ⟨hin, isInR_yes (n := 2) h1 h2 (y1 (askT_yes (by omega) hk (tt (by decide) (nf (by decide) (nt rfl ⟨hin, ?_, hI⟩)))))⟩)
          rw [nI_cl (by omega)]; exact hby
        · refine nt rfl ⟨hin, isInR_yes (n := 2) h1 h2 (y1 (askT_yes (by omega) hk (tt (by decide) (nf (by decide) (nf (by decide) ⟨hin, ?_⟩)))))⟩
          rw [nI_cl (by omega), ← l1]
          rcases l2 with q | q
          · rw [q]; exact tt rfl ⟨rfl, hI⟩
          · rw [q]; exact ff (by decide) ⟨rfl, hI⟩
theorem p_54 : St_54 Inw := by
  intro XI XA XL MI MA ML hI a1
  obtain ⟨P, S, hq, hN, hW, ⟨K, E, F, -, -, -, q1, q2, -⟩, ⟨R, n, -, -, r1, r2, w1, w2, -⟩, hg, hF, hT, ⟨n1, -, b1, b2, -⟩, ⟨n2, -, d1, d2, -⟩, n3, -, s1, s2, -⟩ := id hI
  unfold ls_54 w_X9_count w_X10_count
  have key : ∀ x y : Int32, x = y → ∀ k : Int32, k.toInt = a1.toInt → True := fun _ _ _ _ _ => trivial
  by_cases hc : a1.toInt < 0 ∨ 10 < a1.toInt
  · have ne : ∀ (k : Nat), k ≤ 10 → ¬ a1 = nI k := fun k hk q => by
      rw [q, nI_toInt (by omega)] at hc
      omega
    have inner : ∀ (r : Int32), r = -2000000001 → w_X10_count (MI 8) (MI 4) (MI 3) (MI 0) (MI 13) (MI 5) (MI 14) (MI 1) (MI 11) (MI 6) (MI 12) a1 (fun r2 => r = r2 ∧ Inw XI XA XL MI MA ML) := fun r hr =>
      ⟨fun _ => ⟨hr, hI⟩, fun q => absurd q (ne 0 (by omega)), fun q => absurd q (ne 1 (by omega)), fun q => absurd q (ne 2 (by omega)), fun q => absurd q (ne 3 (by omega)), fun q => absurd q (ne 4 (by omega)), fun q => absurd q (ne 5 (by omega)), fun q => absurd q (ne 6 (by omega)), fun q => absurd q (ne 7 (by omega)), fun q => absurd q (ne 8 (by omega)), fun q => absurd q (ne 9 (by omega)), fun q => absurd q (ne 10 (by omega))⟩
    exact ⟨fun _ => inner _ rfl, fun q => absurd q (ne 0 (by omega)), fun q => absurd q (ne 1 (by omega)), fun q => absurd q (ne 2 (by omega)), fun q => absurd q (ne 3 (by omega)), fun q => absurd q (ne 4 (by omega)), fun q => absurd q (ne 5 (by omega)), fun q => absurd q (ne 6 (by omega)), fun q => absurd q (ne 7 (by omega)), fun q => absurd q (ne 8 (by omega)), fun q => absurd q (ne 9 (by omega)), fun q => absurd q (ne 10 (by omega))⟩
  · have fs : (if XI 18 = 0 then (0 : Int32) else XI 22) = MI 8 := by
      rcases hF with ⟨f1, f2, f3⟩ | ⟨f1, f2, n, f3, f4, -⟩
      · rw [if_pos f1, f3]
      · rw [if_neg (by rw [f1]; decide), f3, f4]
    have ts : (if XI 2 = 0 then (0 : Int32) else XI 6) = MI 11 := by
      rcases hT with ⟨f1, f2, f3⟩ | ⟨f1, f2, n, f3, f4, -⟩
      · rw [if_pos f1, f3]
      · rw [if_neg (by rw [f1]; decide), f3, f4]
    have inner : ∀ (r : Int32), (a1 = 0 → r = MI 0) → (a1 = 1 → r = MI 1) → (a1 = 2 → r = MI 3) → (a1 = 3 → r = MI 4) → (a1 = 4 → r = MI 5) → (a1 = 5 → r = MI 6) → (a1 = 6 → r = MI 8) → (a1 = 7 → r = MI 11) → (a1 = 8 → r = MI 12) → (a1 = 9 → r = MI 13) → (a1 = 10 → r = MI 14) → w_X10_count (MI 8) (MI 4) (MI 3) (MI 0) (MI 13) (MI 5) (MI 14) (MI 1) (MI 11) (MI 6) (MI 12) a1 (fun r2 => r = r2 ∧ Inw XI XA XL MI MA ML) := fun r k0 k1 k2 k3 k4 k5 k6 k7 k8 k9 k10 =>
      ⟨fun q => absurd q hc, fun q => ⟨k0 q, hI⟩, fun q => ⟨k1 q, hI⟩, fun q => ⟨k2 q, hI⟩, fun q => ⟨k3 q, hI⟩, fun q => ⟨k4 q, hI⟩, fun q => ⟨k5 q, hI⟩, fun q => ⟨k6 q, hI⟩, fun q => ⟨k7 q, hI⟩, fun q => ⟨k8 q, hI⟩, fun q => ⟨k9 q, hI⟩, fun q => ⟨k10 q, hI⟩⟩
    have nk : ∀ (i j : Int32), a1 = i → a1 = j → i = j := fun i j h1 h2 => h1.symm.trans h2
    refine ⟨fun q => absurd q hc, fun q => ?_, fun q => ?_, fun q => ?_, fun q => ?_, fun q => ?_, fun q => ?_, fun q => ?_, fun q => ?_, fun q => ?_, fun q => ?_, fun q => ?_⟩
    · subst q; exact inner _ (fun _ => hq.1.trans hq.2.1.symm) (fun h => absurd h (by decide)) (fun h => absurd h (by decide)) (fun h => absurd h (by decide)) (fun h => absurd h (by decide)) (fun h => absurd h (by decide)) (fun h => absurd h (by decide)) (fun h => absurd h (by decide)) (fun h => absurd h (by decide)) (fun h => absurd h (by decide)) (fun h => absurd h (by decide))
    · subst q; exact inner _ (fun h => absurd h (by decide)) (fun _ => hq.2.2.1.trans hq.2.2.2.1.symm) (fun h => absurd h (by decide)) (fun h => absurd h (by decide)) (fun h => absurd h (by decide)) (fun h => absurd h (by decide)) (fun h => absurd h (by decide)) (fun h => absurd h (by decide)) (fun h => absurd h (by decide)) (fun h => absurd h (by decide)) (fun h => absurd h (by decide))
    · subst q; exact inner _ (fun h => absurd h (by decide)) (fun h => absurd h (by decide)) (fun _ => q1.trans q2.symm) (fun h => absurd h (by decide)) (fun h => absurd h (by decide)) (fun h => absurd h (by decide)) (fun h => absurd h (by decide)) (fun h => absurd h (by decide)) (fun h => absurd h (by decide)) (fun h => absurd h (by decide)) (fun h => absurd h (by decide))
    · subst q; exact inner _ (fun h => absurd h (by decide)) (fun h => absurd h (by decide)) (fun h => absurd h (by decide)) (fun _ => hg.1) (fun h => absurd h (by decide)) (fun h => absurd h (by decide)) (fun h => absurd h (by decide)) (fun h => absurd h (by decide)) (fun h => absurd h (by decide)) (fun h => absurd h (by decide)) (fun h => absurd h (by decide))
    · subst q; exact inner _ (fun h => absurd h (by decide)) (fun h => absurd h (by decide)) (fun h => absurd h (by decide)) (fun h => absurd h (by decide)) (fun _ => r1.trans r2.symm) (fun h => absurd h (by decide)) (fun h => absurd h (by decide)) (fun h => absurd h (by decide)) (fun h => absurd h (by decide)) (fun h => absurd h (by decide)) (fun h => absurd h (by decide))
    · subst q; exact inner _ (fun h => absurd h (by decide)) (fun h => absurd h (by decide)) (fun h => absurd h (by decide)) (fun h => absurd h (by decide)) (fun h => absurd h (by decide)) (fun _ => w1.trans w2.symm) (fun h => absurd h (by decide)) (fun h => absurd h (by decide)) (fun h => absurd h (by decide)) (fun h => absurd h (by decide)) (fun h => absurd h (by decide))
    · subst q
      have fin : ∀ r : Int32, r = MI 8 → w_X10_count (MI 8) (MI 4) (MI 3) (MI 0) (MI 13) (MI 5) (MI 14) (MI 1) (MI 11) (MI 6) (MI 12) 6 (fun r2 => r = r2 ∧ Inw XI XA XL MI MA ML) := fun r hr => inner r (fun h => absurd h (by decide)) (fun h => absurd h (by decide)) (fun h => absurd h (by decide)) (fun h => absurd h (by decide)) (fun h => absurd h (by decide)) (fun h => absurd h (by decide)) (fun _ => hr) (fun h => absurd h (by decide)) (fun h => absurd h (by decide)) (fun h => absurd h (by decide)) (fun h => absurd h (by decide))
      exact ⟨fun h => fin _ (by rw [if_pos h] at fs; exact fs), fun h => fin _ (by rw [if_neg h] at fs; exact fs)⟩
    · subst q
      have fin : ∀ r : Int32, r = MI 11 → w_X10_count (MI 8) (MI 4) (MI 3) (MI 0) (MI 13) (MI 5) (MI 14) (MI 1) (MI 11) (MI 6) (MI 12) 7 (fun r2 => r = r2 ∧ Inw XI XA XL MI MA ML) := fun r hr => inner r (fun h => absurd h (by decide)) (fun h => absurd h (by decide)) (fun h => absurd h (by decide)) (fun h => absurd h (by decide)) (fun h => absurd h (by decide)) (fun h => absurd h (by decide)) (fun h => absurd h (by decide)) (fun _ => hr) (fun h => absurd h (by decide)) (fun h => absurd h (by decide)) (fun h => absurd h (by decide))
      exact ⟨fun h => fin _ (by rw [if_pos h] at ts; exact ts), fun h => fin _ (by rw [if_neg h] at ts; exact ts)⟩
    · subst q; exact inner _ (fun h => absurd h (by decide)) (fun h => absurd h (by decide)) (fun h => absurd h (by decide)) (fun h => absurd h (by decide)) (fun h => absurd h (by decide)) (fun h => absurd h (by decide)) (fun h => absurd h (by decide)) (fun h => absurd h (by decide)) (fun _ => b1.trans b2.symm) (fun h => absurd h (by decide)) (fun h => absurd h (by decide))
    · subst q; exact inner _ (fun h => absurd h (by decide)) (fun h => absurd h (by decide)) (fun h => absurd h (by decide)) (fun h => absurd h (by decide)) (fun h => absurd h (by decide)) (fun h => absurd h (by decide)) (fun h => absurd h (by decide)) (fun h => absurd h (by decide)) (fun h => absurd h (by decide)) (fun _ => d1.trans d2.symm) (fun h => absurd h (by decide))
    · subst q; exact inner _ (fun h => absurd h (by decide)) (fun h => absurd h (by decide)) (fun h => absurd h (by decide)) (fun h => absurd h (by decide)) (fun h => absurd h (by decide)) (fun h => absurd h (by decide)) (fun h => absurd h (by decide)) (fun h => absurd h (by decide)) (fun h => absurd h (by decide)) (fun h => absurd h (by decide)) (fun _ => s1.trans s2.symm)
