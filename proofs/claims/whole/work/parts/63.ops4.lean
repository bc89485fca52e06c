/-! ===== the net grows ===== -/
theorem cCount_le (pk : Nat → Int32) : ∀ n, cCount pk n ≤ n
  | 0 => Nat.le_refl 0
  | n + 1 => by
    have := cCount_le pk n
    show cCount pk n + (if pk n = 1 then 1 else 0) ≤ n + 1
    split <;> omega
theorem cCount_upd (pk : Nat → Int32) (q : Nat) (v : Int32) : ∀ n, n ≤ q → cCount (upd pk q v) n = cCount pk n
  | 0, _ => rfl
  | n + 1, h => by
    show cCount (upd pk q v) n + (if upd pk q v n = 1 then 1 else 0) = cCount pk n + (if pk n = 1 then 1 else 0)
    rw [cCount_upd pk q v n (by omega), pk_un (by omega)]
theorem p_0 : St_0 Inw := by
  intro XI XA XL MI MA ML hI a1
  obtain ⟨P, S, hq, hN, hW, hPa, hH, hg, hF, hT, hb1, hb2, hs⟩ := id hI
  obtain ⟨q9, m0, q10, m1, k5, k27, k29, k24, k16, k4, k31, k10⟩ := id hq
  have hno : Inw (va_up (va_up (va_up (va_up (va_up (va_up (va_up (va_up XI 2 (XI 2)) 9 (XI 9)) 11 (XI 11)) 13 (XI 13)) 15 (XI 15)) 16 (XI 16)) 18 (XI 18)) 23 (XI 23)) (va_up XA 13 (XA 13)) XL (va_up (va_up (va_up (va_up (va_up (va_up (va_up (va_up (va_up MI 0 (MI 0)) 3 (MI 3)) 7 (MI 7)) 8 (MI 8)) 10 (MI 10)) 11 (MI 11)) 12 (MI 12)) 13 (MI 13)) 14 (MI 14)) (va_up (va_up MA 5 (MA 5)) 11 (MA 11)) ML := by simp only [up_same]; exact hI
  unfold ls_0 w_X9_place w_X10_place w_X5_addPlace w_X9_netChanges w_X6_clear w_X10_changed
  rcases rng a1 1 (by omega) with f | ⟨w, hw, rfl, f1, f2⟩
  · by_cases f1 : a1 < 0
    · exact tt f1 (isInR_no (n := 1) f (y0 ⟨rfl, hno⟩))
    · exact ff f1 (ff (Int32.not_le.mpr (f.resolve_left f1)) (isInR_no (n := 1) f (y0 ⟨rfl, hno⟩)))
  refine ff f1 (tt f2 ?_)
  obtain ⟨⟨hP16, hS16⟩, n1, n2, n3, n4, n5, n6, n7, n8, n9, n10, n11, n12, n13, n14⟩ := id hN
  by_cases hf : P < 16
  · have c1 : XI 9 < (16 : Int32) := by rw [q9]; exact nI_lt (b := 16) hf (by omega)
    have c2 : ¬ MI 0 = (16 : Int32) := fun q => by
      rw [m0] at q
      have := (nI_eq (a := P) (b := 16) (by omega) (by omega)).mp q
      omega
    have hin : vp_in (XI 9) 16 := by rw [q9]; exact vp_in_nI hf (by omega)
    have hin2 : vp_in (MI 0) 16 := by rw [m0]; exact vp_in_nI hf (by omega)
    have hc1 : (XI 9).toNatClampNeg = P := by rw [q9]; exact nI_cl (by omega)
    have hc2 : (MI 0).toNatClampNeg = P := by rw [m0]; exact nI_cl (by omega)
    have hz := hW P (by omega)
    have key : ∀ (co : Int32), co = nI (cCount (upd (XA 13) P (nI w)) (P + 1)) → Inw (va_up (va_up (va_up (va_up (va_up (va_up (va_up (va_up XI 2 0) 9 (XI 9 + 1)) 11 co) 13 0) 15 0) 16 0) 18 0) 23 0) (va_up XA 13 (upd (XA 13) P (nI w))) XL (va_up (va_up (va_up (va_up (va_up (va_up (va_up (va_up (va_up MI 0 (MI 0 + 1)) 3 0) 7 0) 8 0) 10 0) 11 0) 12 0) 13 0) 14 0) (va_up (va_up MA 5 (upd (MA 5) P (nI w))) 11 (upd (MA 11) P 0)) ML := by
      intro co hco
      refine ⟨P + 1, S, ⟨?_, ?_, q10, m1, ?_, k27, k29, k24, k16, k4, k31, k10⟩, ⟨⟨hf, hS16⟩, ?_, n2, n3, n4, n5, n6, n7, n8, ?_, n10, n11, n12, n13, hco⟩, ?_, cPast_clear hPa, hH, hg, Or.inl ⟨rfl, rfl, rfl⟩, Or.inl ⟨rfl, rfl, rfl⟩, cBal_0, cBal_0, cSets_0⟩
      · show XI 9 + 1 = nI (P + 1)
        rw [q9]; exact nI_1 P
      · show MI 0 + 1 = nI (P + 1)
        rw [m0]; exact nI_1 P
      · show upd (MA 5) P (nI w) = upd (XA 13) P (nI w)
        rw [k5]
      · intro p hp
        show upd (XA 13) P (nI w) p = 0 ∨ upd (XA 13) P (nI w) p = 1
        by_cases e : p = P
        · subst e; rw [pk_us]
          rcases (show w = 0 ∨ w = 1 by omega) with rfl | rfl
          · exact Or.inl rfl
          · exact Or.inr rfl
        · rw [pk_un e]; exact n1 p (by omega)
      · intro s p hs hp h
        exact n9 s p hs hp (h.imp id (fun h => by omega))
      · intro p hp
        show XA 20 p = upd (MA 11) P 0 p ∧ ∃ v : Nat, upd (MA 11) P 0 p = nI v ∧ v ≤ 1000000000 ∧ (P + 1 ≤ p → v = 0 ∧ XL 1 p = 0) ∧ (p < P + 1 → upd (XA 13) P (nI w) p = 1 → v ≤ 20 ∧ ∃ t : Nat, XL 1 p = lN t ∧ t < 4 ^ v ∧ ∀ j, j < v → MA 30 (20 * p + j) = nI (t / 4 ^ j % 4))
        by_cases e : p = P
        · subst e
          obtain ⟨z1', v, z2, z3, z4, z5⟩ := hz
          obtain ⟨rfl, z6⟩ := z4 (Nat.le_refl _)
          rw [pk_us]
          refine ⟨z1'.trans z2, 0, rfl, by omega, fun h => absurd h (by omega), fun _ _ => ⟨by omega, 0, z6, by decide, fun j hj => absurd hj (by omega)⟩⟩
        · rw [pk_un e, pk_un e]
          obtain ⟨z1', v, z2, z3, z4, z5⟩ := hW p hp
          exact ⟨z1', v, z2, z3, fun h => z4 (by omega), fun h => z5 (by omega)⟩
    have hcnt : cCount (upd (XA 13) P (nI w)) (P + 1) = cCount (XA 13) P + (if nI w = 1 then 1 else 0) := by
      show cCount (upd (XA 13) P (nI w)) P + (if upd (XA 13) P (nI w) P = 1 then 1 else 0) = _
      rw [cCount_upd _ _ _ _ (Nat.le_refl P), pk_us]
    refine tt c1 ⟨hin, nm ?_⟩
    rw [hc1]
    by_cases cw : nI w = 1
    · refine nt cw (nm (isInR_yes (n := 1) f1 f2 (y1 (nf c2 ⟨hin2, hin2, nm ?_⟩))))
      rw [hc2]
      refine ⟨?_, key _ ?_⟩
      · rw [q9, m0]
      · rw [hcnt, if_pos cw, n14]; exact nI_1 _
    · refine nf cw (nm (isInR_yes (n := 1) f1 f2 (y1 (nf c2 ⟨hin2, hin2, nm ?_⟩))))
      rw [hc2]
      refine ⟨?_, key _ ?_⟩
      · rw [q9, m0]
      · rw [hcnt, if_neg cw, n14]
        exact nI_add _ 0
  · have e16 : P = 16 := by omega
    have c1 : ¬ XI 9 < (16 : Int32) := by rw [q9, e16]; decide
    have c2 : MI 0 = (16 : Int32) := by rw [m0, e16]; rfl
    exact ff c1 (isInR_yes (n := 1) f1 f2 (y1 (nt c2 ⟨rfl, hno⟩)))
theorem p_1 : St_1 Inw := by
  intro XI XA XL MI MA ML hI a1
  obtain ⟨P, S, hq, hN, hW, hPa, hH, hg, hF, hT, hb1, hb2, hs⟩ := id hI
  obtain ⟨q9, m0, q10, m1, k5, k27, k29, k24, k16, k4, k31, k10⟩ := id hq
  have hno : Inw (va_up (va_up (va_up (va_up (va_up (va_up (va_up XI 2 (XI 2)) 10 (XI 10)) 13 (XI 13)) 15 (XI 15)) 16 (XI 16)) 18 (XI 18)) 23 (XI 23)) (va_up XA 16 (XA 16)) XL (va_up (va_up (va_up (va_up (va_up (va_up (va_up (va_up (va_up MI 1 (MI 1)) 3 (MI 3)) 7 (MI 7)) 8 (MI 8)) 10 (MI 10)) 11 (MI 11)) 12 (MI 12)) 13 (MI 13)) 14 (MI 14)) (va_up MA 27 (MA 27)) ML := by simp only [up_same]; exact hI
  unfold ls_1 w_X9_step w_X10_step w_X5_addStep w_X9_netChanges w_X6_clear w_X10_changed
  rcases rng a1 3 (by omega) with f | ⟨w, hw, rfl, f1, f2⟩
  · by_cases f1 : a1 < 0
    · exact tt f1 (isInR_no (n := 3) f (y0 ⟨rfl, hno⟩))
    · exact ff f1 (ff (Int32.not_le.mpr (f.resolve_left f1)) (isInR_no (n := 3) f (y0 ⟨rfl, hno⟩)))
  refine ff f1 (tt f2 ?_)
  obtain ⟨⟨hP16, hS16⟩, n1, n2, n3, n4, n5, n6, n7, n8, n9, n10, n11, n12, n13, n14⟩ := id hN
  by_cases hf : S < 16
  · have c1 : XI 10 < (16 : Int32) := by rw [q10]; exact nI_lt (b := 16) hf (by omega)
    have c2 : ¬ MI 1 = (16 : Int32) := fun q => by
      rw [m1] at q
      have := (nI_eq (a := S) (b := 16) (by omega) (by omega)).mp q
      omega
    have hin : vp_in (XI 10) 16 := by rw [q10]; exact vp_in_nI hf (by omega)
    have hin2 : vp_in (MI 1) 16 := by rw [m1]; exact vp_in_nI hf (by omega)
    have hc1 : (XI 10).toNatClampNeg = S := by rw [q10]; exact nI_cl (by omega)
    have hc2 : (MI 1).toNatClampNeg = S := by rw [m1]; exact nI_cl (by omega)
    refine tt c1 ⟨hin, nm (isInR_yes (n := 3) f1 f2 (y1 (nf c2 ⟨hin2, nm ?_⟩)))⟩
    rw [hc1, hc2]
    refine ⟨by rw [q10, m1], P, S + 1, ⟨q9, m0, ?_, ?_, k5, ?_, k29, k24, k16, k4, k31, k10⟩, ⟨⟨hP16, hf⟩, n1, ?_, n3, n4, n5, n6, n7, n8, ?_, ?_, n11, n12, n13, n14⟩, hW, cPast_clear hPa, ?_, hg, Or.inl ⟨rfl, rfl, rfl⟩, Or.inl ⟨rfl, rfl, rfl⟩, cBal_0, cBal_0, cSets_0⟩
    · show XI 10 + 1 = nI (S + 1)
      rw [q10]; exact nI_1 S
    · show MI 1 + 1 = nI (S + 1)
      rw [m1]; exact nI_1 S
    · show upd (MA 27) S (nI w) = upd (XA 16) S (nI w)
      rw [k27]
    · intro s hs
      show ∃ k : Nat, k ≤ 3 ∧ upd (XA 16) S (nI w) s = nI k
      by_cases e : s = S
      · subst e; rw [pk_us]; exact ⟨w, hw, rfl⟩
      · rw [pk_un e]; exact n2 s (by omega)
    · intro s p hs hp h
      exact n9 s p hs hp (h.imp (fun h => by omega) id)
    · intro s p hs hp
      show (upd (XA 16) S (nI w) s < 1 → XA 12 (16 * s + p) = 0) ∧ (upd (XA 16) S (nI w) s < 2 → XA 9 (16 * s + p) = 0)
      by_cases e : s = S
      · subst e
        have := n9 s p hf hp (Or.inl (Nat.le_refl _))
        exact ⟨fun _ => this.2.2.1, fun _ => this.2.2.2⟩
      · rw [pk_un e]; exact n10 s p (by omega) hp
    · obtain ⟨R, n, hR, hn, r1, r2, w1, w2, hrow, hway⟩ := hH
      exact ⟨R, n, hR, hn, r1, r2, w1, w2, hrow, fun i hi => ⟨(hway i hi).1, by obtain ⟨s, hs, e⟩ := (hway i hi).2; exact ⟨s, by omega, e⟩⟩⟩
  · have e16 : S = 16 := by omega
    have c1 : ¬ XI 10 < (16 : Int32) := by rw [q10, e16]; decide
    have c2 : MI 1 = (16 : Int32) := by rw [m1, e16]; rfl
    exact ff c1 (isInR_yes (n := 3) f1 f2 (y1 (nt c2 ⟨rfl, hno⟩)))
theorem rng_upd {f : Nat → Int32} {q b w : Nat} (h : ∀ i, i < 256 → ∃ v : Nat, v ≤ b ∧ f i = nI v) (hw : w ≤ b) : ∀ i, i < 256 → ∃ v : Nat, v ≤ b ∧ upd f q (nI w) i = nI v := fun i hi => by
  by_cases e : i = q
  · subst e; rw [pk_us]; exact ⟨w, hw, rfl⟩
  · rw [pk_un e]; exact h i hi
theorem p_5 : St_5 Inw := by
  intro XI XA XL MI MA ML hI a1 a2 a3 a4
  obtain ⟨P, S, hq, hN, hW, hPa, hH, hg, hF, hT, hb1, hb2, hs⟩ := id hI
  obtain ⟨q9, m0, q10, m1, k5, k27, k29, k24, k16, k4, k31, k10⟩ := id hq
  obtain ⟨⟨hP16, hS16⟩, n1, n2, n3, n4, n5, n6, n7, n8, n9, n10, n11, n12, n13, n14⟩ := id hN
  have hno : Inw (va_up (va_up (va_up (va_up (va_up (va_up XI 2 (XI 2)) 13 (XI 13)) 15 (XI 15)) 16 (XI 16)) 18 (XI 18)) 23 (XI 23)) (va_up (va_up XA 10 (XA 10)) 19 (XA 19)) XL (va_up (va_up (va_up (va_up (va_up (va_up (va_up (va_up MI 3 (MI 3)) 7 (MI 7)) 8 (MI 8)) 10 (MI 10)) 11 (MI 11)) 12 (MI 12)) 13 (MI 13)) 14 (MI 14)) (va_up (va_up MA 10 (MA 10)) 31 (MA 31)) ML := by simp only [up_same]; exact hI
  unfold ls_5 w_X9_want w_X10_want w_X9_netChanges w_X6_clear w_X10_changed w_X9_crossing
  rw [q9, m0, q10, m1]
  rcases ix3 a1 S (by omega) with h | ⟨s, hs', rfl, h1, h2⟩
  · exact hasBoth_no1 h (z0 (isStep_no h (z0 ⟨rfl, hno⟩)))
  rcases ix3 a2 P (by omega) with g | ⟨p, hp, rfl, g1, g2⟩
  · exact hasBoth_no2 h1 h2 g (z0 (isStep_yes h1 h2 (z1 (isPlace_no g (z0 ⟨rfl, hno⟩)))))
  refine hasBoth_yes h1 h2 g1 g2 (z1 ?_)
  rcases rng a3 3 (by omega) with f | ⟨w, hw, rfl, f1, f2⟩
  · exact isThing_no f (z0 (isStep_yes h1 h2 (z1 (isPlace_yes g1 g2 (z1 (isInR_no (n := 3) f (z0 ⟨rfl, hno⟩)))))))
  refine isThing_yes f1 f2 (z1 ?_)
  rcases rng a4 3 (by omega) with d | ⟨u, hu, rfl, d1, d2⟩
  · exact isThing_no d (y0 (isStep_yes h1 h2 (z1 (isPlace_yes g1 g2 (z1 (isInR_yes (n := 3) f1 f2 (z1 (isInR_no (n := 3) d (y0 ⟨rfl, hno⟩)))))))))
  refine isThing_yes d1 d2 (y1 ?_)
  have hin : vp_in (nI (16 * s + p)) 256 := vp_in_nI (by omega) (by omega)
  have hip : vp_in (nI p) 16 := vp_in_nI (by omega) (by omega)
  rcases n1 p hp with c | c
  · refine isCol_no (by omega) (by rw [c]; decide) (y0 (isStep_yes h1 h2 (z1 (isPlace_yes g1 g2 (z1 (isInR_yes (n := 3) f1 f2 (z1 (isInR_yes (n := 3) d1 d2 (y1 ⟨hip, ?_⟩)))))))))
    rw [nI_cl (by omega), k5]
    exact nt c ⟨rfl, hno⟩
  · refine isCol_yes (by omega) c (y1 ?_)
    rw [ixC]
    refine ⟨hin, hin, isStep_yes h1 h2 (z1 (isPlace_yes g1 g2 (z1 (isInR_yes (n := 3) f1 f2 (z1 (isInR_yes (n := 3) d1 d2 (y1 ⟨hip, ?_⟩)))))))⟩
    rw [nI_cl (n := p) (by omega), k5]
    refine nf (by rw [c]; decide) ?_
    rw [ixA]
    refine ⟨hin, hin, rfl, ?_⟩
    rw [nI_cl (by omega)]
    refine ⟨P, S, ⟨q9, m0, q10, m1, k5, k27, k29, k24, k16, k4, ?_, ?_⟩, ⟨⟨hP16, hS16⟩, n1, n2, n3, n4, n5, n6, rng_upd n7 hw, rng_upd n8 hu, n9, n10, n11, n12, n13, n14⟩, hW, cPast_clear hPa, hH, hg, Or.inl ⟨rfl, rfl, rfl⟩, Or.inl ⟨rfl, rfl, rfl⟩, cBal_0, cBal_0, cSets_0⟩
    · show upd (MA 31) (16 * s + p) (nI w) = upd (XA 19) (16 * s + p) (nI w)
      rw [k31]
    · show upd (MA 10) (16 * s + p) (nI u) = upd (XA 10) (16 * s + p) (nI u)
      rw [k10]
