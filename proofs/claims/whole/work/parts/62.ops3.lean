theorem hasBoth_yes {pl st a1 a2 : Int32} {post : Int32 → Prop} (h1 : ¬ a1 < 0) (h2 : ¬ st ≤ a1) (g1 : ¬ a2 < 0) (g2 : ¬ pl ≤ a2) (k : post 1) : w_X5_hasBoth pl st a1 a2 post := hasStep_yes h1 h2 (z1 (hasPlace_yes g1 g2 (z1 k)))
theorem hasBoth_no1 {pl st a1 a2 : Int32} {post : Int32 → Prop} (h : a1 < 0 ∨ st ≤ a1) (k : post 0) : w_X5_hasBoth pl st a1 a2 post := hasStep_no h (z0 k)
theorem hasBoth_no2 {pl st a1 a2 : Int32} {post : Int32 → Prop} (h1 : ¬ a1 < 0) (h2 : ¬ st ≤ a1) (g : a2 < 0 ∨ pl ≤ a2) (k : post 0) : w_X5_hasBoth pl st a1 a2 post := hasStep_yes h1 h2 (z1 (hasPlace_no g (z0 k)))
theorem isArc_yes {a : Int32} {post : Int32 → Prop} (h1 : ¬ a < 0) (h2 : a ≤ nI 9) (k : post 1) : w_X9_isArc a post := ff h1 (ff (le_nlt h2) k)
theorem isArc_no {a : Int32} {post : Int32 → Prop} (h : a < 0 ∨ nI 9 < a) (k : post 0) : w_X9_isArc a post := by
  by_cases h1 : a < 0
  · exact tt h1 k
  · exact ff h1 (tt (h.resolve_left h1) k)
theorem isThing_yes {a : Int32} {post : Int32 → Prop} (h1 : ¬ a < 0) (h2 : a ≤ nI 3) (k : post 1) : w_X9_isThingKind a post := ff h1 (ff (le_nlt h2) k)
theorem isThing_no {a : Int32} {post : Int32 → Prop} (h : a < 0 ∨ nI 3 < a) (k : post 0) : w_X9_isThingKind a post := by
  by_cases h1 : a < 0
  · exact tt h1 k
  · exact ff h1 (tt (h.resolve_left h1) k)
theorem isCol_yes {pk : Nat → Int32} {p : Nat} {post : Int32 → Prop} (hp : p < 16) (h : pk p = 1) (k : post 1) : w_X5_isColoured pk (nI p) post := by
  refine ⟨vp_in_nI hp (by omega), ?_⟩
  rw [nI_cl (by omega)]
  exact nt h k
theorem isCol_no {pk : Nat → Int32} {p : Nat} {post : Int32 → Prop} (hp : p < 16) (h : ¬ pk p = 1) (k : post 0) : w_X5_isColoured pk (nI p) post := by
  refine ⟨vp_in_nI hp (by omega), ?_⟩
  rw [nI_cl (by omega)]
  exact nf h k
theorem cPast_clear {P S : Nat} {pk tk pt : Nat → Int32} {co : Int32} {th : Nat → Int64} {has : Nat → Int32} {sz en : Int32} {st : Nat → Int32} {pth : Nat → Int64} {f pa : Int32} {ph ps pts : Nat → Int32} (h : cPast P S pk tk pt co th has sz en st pth f pa ph ps pts) {P' S' : Nat} {pk' tk' pt' : Nat → Int32} {co' : Int32} {th' : Nat → Int64} {has' : Nat → Int32} : cPast P' S' pk' tk' pt' co' th' has' 0 en st pth f 0 ph ps pts := by
  obtain ⟨K, E, F, -, hE, hF, -, -, e1, e2, -⟩ := h
  exact ⟨0, E, F, by omega, hE, hF, rfl, rfl, e1, e2, fun k hk => absurd hk (by omega)⟩
theorem cBal_0 {B : Nat} {f g : Nat → Int32} : cBal B 0 f 0 g := ⟨0, by omega, rfl, rfl, fun k p hk => absurd hk (by omega)⟩
theorem cSets_0 {f g : Nat → Int32} : cSets 0 f 0 g := ⟨0, by omega, rfl, rfl, fun k hk => absurd hk (by omega)⟩
theorem p_6 : St_6 Inw := by
  intro XI XA XL MI MA ML hI a1 a2 a3
  obtain ⟨P, S, hq, hN, -⟩ := id hI
  have hP16 : P ≤ 16 := hN.1.1
  have hS16 : S ≤ 16 := hN.1.2
  obtain ⟨q9, m0, q10, m1, k5, k27, k29, k24, k16, k4, k31, k10⟩ := hq
  unfold ls_6 w_X9_asks w_X10_asks w_X9_crossing
  rw [q9, m0, q10, m1]
  rcases ix3 a1 S (by omega) with h | ⟨s, hs, rfl, h1, h2⟩
  · exact hasBoth_no1 h (y0 (isStep_no h (z0 ⟨rfl, hI⟩)))
  rcases ix3 a2 P (by omega) with g | ⟨p, hp, rfl, g1, g2⟩
  · exact hasBoth_no2 h1 h2 g (y0 (isStep_yes h1 h2 (z1 (isPlace_no g (z0 ⟨rfl, hI⟩)))))
  have hin : vp_in (nI (16 * s + p)) 256 := vp_in_nI (by omega) (by omega)
  refine hasBoth_yes h1 h2 g1 g2 (y1 ?_)
  rw [ixC, ixA]
  rcases rng a3 5 (by omega) with f | ⟨w, hw, rfl, f1, f2⟩
  · have hM : w_X10_isStep (nI S) (nI s) (fun r1 => (r1 = 0 → (-2000000001 : Int32) = -2000000001 ∧ Inw XI XA XL MI MA ML) ∧ (¬ r1 = 0 → True)) := isStep_yes h1 h2 (z1 trivial)
    have ne : ∀ (k : Nat), k ≤ 5 → ¬ a3 = nI k := fun k hk q => by
      rcases f with f | f
      · rw [q] at f; exact nI_pos (by omega) f
      · rw [q] at f; exact Int32.not_lt.mpr (nI_le hk (by omega)) f
    have hout : a3.toInt < 0 ∨ 5 < a3.toInt := by
      rcases f with f | f
      · exact Or.inl (Int32.lt_iff_toInt_lt.mp f)
      · exact Or.inr (Int32.lt_iff_toInt_lt.mp f)
    exact ⟨fun _ => isStep_yes h1 h2 (z1 (isPlace_yes g1 g2 (z1 (isInR_no (n := 5) f (y0 ⟨rfl, hI⟩))))), fun q => absurd q (ne 0 (by omega)), fun q => absurd q (ne 1 (by omega)), fun q => absurd q (ne 2 (by omega)), fun q => absurd q (ne 3 (by omega)), fun q => absurd q (ne 4 (by omega)), fun q => absurd q (ne 5 (by omega))⟩
  rcases (show w = 0 ∨ w = 1 ∨ w = 2 ∨ w = 3 ∨ w = 4 ∨ w = 5 by omega) with rfl | rfl | rfl | rfl | rfl | rfl
  · exact ⟨fun q => absurd q (by decide), fun _ => ⟨hin, isStep_yes h1 h2 (z1 (isPlace_yes g1 g2 (z1 (isInR_yes (n := 5) f1 f2 (y1 (nm (nt rfl (⟨hin, by rw [nI_cl (by omega), k29], hI⟩))))))))⟩, fun q => absurd q (by decide), fun q => absurd q (by decide), fun q => absurd q (by decide), fun q => absurd q (by decide), fun q => absurd q (by decide)⟩
  · exact ⟨fun q => absurd q (by decide), fun q => absurd q (by decide), fun _ => ⟨hin, isStep_yes h1 h2 (z1 (isPlace_yes g1 g2 (z1 (isInR_yes (n := 5) f1 f2 (y1 (nm (nf (by decide) (nt rfl (⟨hin, by rw [nI_cl (by omega), k24], hI⟩)))))))))⟩, fun q => absurd q (by decide), fun q => absurd q (by decide), fun q => absurd q (by decide), fun q => absurd q (by decide)⟩
  · exact ⟨fun q => absurd q (by decide), fun q => absurd q (by decide), fun q => absurd q (by decide), fun _ => ⟨hin, isStep_yes h1 h2 (z1 (isPlace_yes g1 g2 (z1 (isInR_yes (n := 5) f1 f2 (y1 (nm (nf (by decide) (nf (by decide) (nt rfl (⟨hin, by rw [nI_cl (by omega), k16], hI⟩))))))))))⟩, fun q => absurd q (by decide), fun q => absurd q (by decide), fun q => absurd q (by decide)⟩
  · exact ⟨fun q => absurd q (by decide), fun q => absurd q (by decide), fun q => absurd q (by decide), fun q => absurd q (by decide), fun _ => ⟨hin, isStep_yes h1 h2 (z1 (isPlace_yes g1 g2 (z1 (isInR_yes (n := 5) f1 f2 (y1 (nm (nf (by decide) (nf (by decide) (nf (by decide) (nt rfl (⟨hin, by rw [nI_cl (by omega), k4], hI⟩)))))))))))⟩, fun q => absurd q (by decide), fun q => absurd q (by decide)⟩
  · exact ⟨fun q => absurd q (by decide), fun q => absurd q (by decide), fun q => absurd q (by decide), fun q => absurd q (by decide), fun q => absurd q (by decide), fun _ => ⟨hin, isStep_yes h1 h2 (z1 (isPlace_yes g1 g2 (z1 (isInR_yes (n := 5) f1 f2 (y1 (nm (nf (by decide) (nf (by decide) (nf (by decide) (nf (by decide) (nt rfl (⟨hin, by rw [nI_cl (by omega), k31], hI⟩))))))))))))⟩, fun q => absurd q (by decide)⟩
  · exact ⟨fun q => absurd q (by decide), fun q => absurd q (by decide), fun q => absurd q (by decide), fun q => absurd q (by decide), fun q => absurd q (by decide), fun q => absurd q (by decide), fun _ => ⟨hin, isStep_yes h1 h2 (z1 (isPlace_yes g1 g2 (z1 (isInR_yes (n := 5) f1 f2 (y1 (nm (nf (by decide) (nf (by decide) (nf (by decide) (nf (by decide) (nf (by decide) (⟨hin, by rw [nI_cl (by omega), k10], hI⟩))))))))))))⟩⟩
theorem p_7 : St_7 Inw := by
  intro XI XA XL MI MA ML hI a1 a2
  obtain ⟨P, S, hq, hN, -⟩ := id hI
  have hS16 : S ≤ 16 := hN.1.2
  obtain ⟨q9, m0, q10, m1, k5, k27, k29, k24, k16, k4, k31, k10⟩ := hq
  unfold ls_7 w_X9_isOf w_X10_isOf
  rw [q10, m1, k27]
  rcases ix3 a1 S (by omega) with h | ⟨s, hs, rfl, h1, h2⟩
  · exact hasStep_no h (z0 (isStep_no h (z0 ⟨rfl, hI⟩)))
  have hin : vp_in (nI s) 16 := vp_in_nI (by omega) (by omega)
  refine hasStep_yes h1 h2 (z1 ?_)
  rcases rng a2 3 (by omega) with f | ⟨w, hw, rfl, f1, f2⟩
  · by_cases f1 : a2 < 0
    · exact tt f1 (isStep_yes h1 h2 (z1 (isInR_no (n := 3) f (y0 ⟨rfl, hI⟩))))
    · exact ff f1 (ff (Int32.not_le.mpr (f.resolve_left f1)) (isStep_yes h1 h2 (z1 (isInR_no (n := 3) f (y0 ⟨rfl, hI⟩)))))
  · refine ff f1 (tt f2 ⟨hin, ?_⟩)
    by_cases c : XA 16 (nI s).toNatClampNeg < nI w
    · exact tt c (isStep_yes h1 h2 (z1 (isInR_yes (n := 3) f1 f2 (y1 ⟨hin, tt c ⟨rfl, hI⟩⟩))))
    · exact ff c (isStep_yes h1 h2 (z1 (isInR_yes (n := 3) f1 f2 (y1 ⟨hin, ff c ⟨rfl, hI⟩⟩))))
theorem p_8 : St_8 Inw := by
  intro XI XA XL MI MA ML hI a1 a2
  obtain ⟨P, S, hq, hN, hW, hPa, hH, hg, hF, hT, hb1, hb2, hs⟩ := id hI
  have hP16 : P ≤ 16 := hN.1.1
  have hno : Inw (va_up XI 16 (XI 16)) (va_up XA 20 (XA 20)) XL (va_up MI 3 (MI 3)) (va_up MA 11 (MA 11)) ML := by rw [up_same, up_same, up_same, up_same]; exact hI
  unfold ls_8 w_X9_mark w_X10_mark w_X6_clear
  rw [hq.1, hq.2.1, hq.2.2.2.2.1]
  rcases ix3 a1 P (by omega) with h | ⟨p, hp, rfl, h1, h2⟩
  · exact hasPlace_no h (z0 (isPlace_no h (z0 ⟨rfl, hno⟩)))
  have hin : vp_in (nI p) 16 := vp_in_nI (by omega) (by omega)
  refine hasPlace_yes h1 h2 (z1 ?_)
  rcases rng a2 1000000 (by omega) with f | ⟨w, hw, rfl, f1, f2⟩
  · by_cases f1 : a2 < 0
    · exact tt f1 (isPlace_yes h1 h2 (z1 (isInR_no (n := 1000000) f (y0 ⟨rfl, hno⟩))))
    · exact ff f1 (ff (Int32.not_le.mpr (f.resolve_left f1)) (isPlace_yes h1 h2 (z1 (isInR_no (n := 1000000) f (y0 ⟨rfl, hno⟩)))))
  refine ff f1 (tt f2 ?_)
  by_cases c : XA 13 p = 1
  · refine isCol_yes (by omega) c (z1 (isPlace_yes h1 h2 (z1 (isInR_yes (n := 1000000) f1 f2 (y1 ⟨hin, ?_⟩)))))
    rw [nI_cl (by omega)]
    exact nt c ⟨rfl, hno⟩
  · refine isCol_no (by omega) c (z0 ⟨hin, nm ⟨hin, isPlace_yes h1 h2 (z1 (isInR_yes (n := 1000000) f1 f2 (y1 ⟨hin, ?_⟩)))⟩⟩)
    rw [nI_cl (by omega)]
    refine nf c ⟨hin, nm ⟨hin, (hW p (by omega)).1, ?_⟩⟩
    refine ⟨P, S, hq, hN, fun i hi => ?_, cPast_clear hPa, hH, hg, hF, hT, hb1, hb2, hs⟩
    show upd (XA 20) p (nI w) i = upd (MA 11) p (nI w) i ∧ ∃ v : Nat, upd (MA 11) p (nI w) i = nI v ∧ v ≤ 1000000000 ∧ (P ≤ i → v = 0 ∧ XL 1 i = 0) ∧ (i < P → XA 13 i = 1 → v ≤ 20 ∧ ∃ t : Nat, XL 1 i = lN t ∧ t < 4 ^ v ∧ ∀ j, j < v → MA 30 (20 * i + j) = nI (t / 4 ^ j % 4))
    by_cases e : i = p
    · subst e
      rw [pk_us, pk_us]
      exact ⟨rfl, w, rfl, by omega, fun q => absurd q (by omega), fun _ q => absurd q c⟩
    · rw [pk_un e, pk_un e]; exact hW i hi
theorem p_10 : St_10 Inw := by
  intro XI XA XL MI MA ML hI a1
  obtain ⟨P, S, hq, hN, hW, hPa, hH, hg, hF, hT, hb1, hb2, hs⟩ := id hI
  have hP16 : P ≤ 16 := hN.1.1
  have hno : Inw (va_up XI 16 (XI 16)) (va_up XA 20 (XA 20)) (va_up XL 1 (XL 1)) (va_up MI 3 (MI 3)) (va_up MA 11 (MA 11)) ML := by rw [up_same, up_same, up_same, up_same, up_same]; exact hI
  unfold ls_10 w_X9_sweep w_X10_sweep w_X6_clear w_X3_empty
  rw [hq.1, hq.2.1, hq.2.2.2.2.1]
  rcases ix3 a1 P (by omega) with h | ⟨p, hp, rfl, h1, h2⟩
  · exact hasPlace_no h (y0 (isPlace_no h (y0 ⟨rfl, hno⟩)))
  have hin : vp_in (nI p) 16 := vp_in_nI (by omega) (by omega)
  refine hasPlace_yes h1 h2 (y1 ?_)
  rcases hN.2.1 p hp with c | c
  · refine isCol_no (by omega) (by rw [c]; decide) (y0 (isPlace_yes h1 h2 (y1 ⟨hin, ?_⟩)))
    rw [nI_cl (by omega)]
    exact nt c ⟨rfl, hno⟩
  · refine isCol_yes (by omega) c (y1 ⟨hin, nm ⟨hin, hin, isPlace_yes h1 h2 (y1 ⟨hin, ?_⟩)⟩⟩)
    rw [nI_cl (by omega)]
    refine nf (by rw [c]; decide) ⟨hin, nm ⟨hin, (hW p (by omega)).1, ?_⟩⟩
    refine ⟨P, S, hq, hN, fun i hi => ?_, cPast_clear hPa, hH, hg, hF, hT, hb1, hb2, hs⟩
    show upd (XA 20) p 0 i = upd (MA 11) p 0 i ∧ ∃ v : Nat, upd (MA 11) p 0 i = nI v ∧ v ≤ 1000000000 ∧ (P ≤ i → v = 0 ∧ vp_updL (XL 1) p 0 i = 0) ∧ (i < P → XA 13 i = 1 → v ≤ 20 ∧ ∃ t : Nat, vp_updL (XL 1) p 0 i = lN t ∧ t < 4 ^ v ∧ ∀ j, j < v → MA 30 (20 * i + j) = nI (t / 4 ^ j % 4))
    by_cases e : i = p
    · subst e
      rw [pk_us, pk_us, pk_uLs]
      exact ⟨rfl, 0, rfl, by omega, fun q => absurd q (by omega), fun _ _ => ⟨by omega, 0, rfl, by decide, fun j hj => absurd hj (by omega)⟩⟩
    · rw [pk_un e, pk_un e, pk_uLn e]; exact hW i hi
/-- a kind out of the packed things -/
theorem kind_val {t i : Nat} (ht : t < 2 ^ 40) (hi : i < 20) : (((lN t).toUInt64 >>> (((2 : Int32) * nI i).toInt64.toUInt64 &&& Int64.toUInt64 63)).toInt64.toInt32 &&& (3 : Int32)) = nI (t / 4 ^ i % 4) := by
  rw [show (2 : Int32) = nI 2 from rfl, pk_mul, wb_shr (by omega) (by omega), lN_i, pk_and _ 2 (by decide)]
  have e : (nI (t / 2 ^ (2 * i))).toBitVec.toNat = t / 2 ^ (2 * i) % 2 ^ 32 := by
    show (BitVec.ofNat 32 _).toNat = _
    rw [BitVec.toNat_ofNat]
  rw [e, Nat.pow_mul, show (2 : Nat) ^ 2 = 4 from rfl]
  congr 1
  omega
theorem p_12 : St_12 Inw := by
  intro XI XA XL MI MA ML hI a1 a2
  obtain ⟨P, S, hq, hN, hW, -⟩ := id hI
  have hP16 : P ≤ 16 := hN.1.1
  unfold ls_12 w_X9_kind w_X10_kind w_X3_kindAt w_X3_kindIn
  rw [hq.1, hq.2.1, hq.2.2.2.2.1]
  rcases ix3 a1 P (by omega) with h | ⟨p, hp, rfl, h1, h2⟩
  · exact hasPlace_no h (y0 (isPlace_no h (y0 ⟨rfl, hI⟩)))
  have hin : vp_in (nI p) 16 := vp_in_nI (by omega) (by omega)
  refine hasPlace_yes h1 h2 (y1 ?_)
  obtain ⟨w1, v, w2, w3, w4, w5⟩ := hW p (by omega)
  rcases hN.2.1 p hp with c | c
  · refine isCol_no (by omega) (by rw [c]; decide) (y0 (isPlace_yes h1 h2 (y1 ⟨hin, ?_⟩)))
    rw [nI_cl (by omega)]
    exact nt c ⟨rfl, hI⟩
  · obtain ⟨u1, t, u2, u3, u4⟩ := w5 hp c
    refine isCol_yes (by omega) c (y1 ?_)
    rw [nI_cl (by omega), w1, w2]
    rcases ix3 a2 v (by omega) with g | ⟨i, hi, rfl, g1, g2⟩
    · have hM : w_X10_isPlace (nI P) (nI p) (fun r1 => (¬ r1 = 0 → vp_in (nI p) 16 ∧ (¬ XA 13 p = 0 → vp_in (nI p) 16 ∧ w_X10_isIn a2 0 (nI v - 1) (fun r6 => (r6 = 0 → (-2000000001 : Int32) = -2000000001 ∧ Inw XI XA XL MI MA ML) ∧ (¬ r6 = 0 → vp_in ((20 : Int32) * nI p + a2) 320 ∧ (-2000000001 : Int32) = MA 30 ((20 : Int32) * nI p + a2).toNatClampNeg ∧ Inw XI XA XL MI MA ML))) ∧ (XA 13 p = 0 → (-2000000001 : Int32) = -2000000002 ∧ Inw XI XA XL MI MA ML)) ∧ (r1 = 0 → (-2000000001 : Int32) = -2000000001 ∧ Inw XI XA XL MI MA ML)) :=
        isPlace_yes h1 h2 (y1 ⟨hin, nf (by rw [c]; decide) ⟨hin, isInM_no (by omega) g (z0 ⟨rfl, hI⟩)⟩⟩)
      by_cases g1 : a2 < 0
      · exact tt g1 hM
      · exact ff g1 ⟨hin, tt (g.resolve_left g1) hM⟩
    · have ht : t < 2 ^ 40 := Nat.lt_of_lt_of_le u3 (by
        have : (4 : Nat) ^ v ≤ 4 ^ 20 := Nat.pow_le_pow_right (by omega) u1
        have e : (4 : Nat) ^ 20 = 2 ^ 40 := by decide
        omega)
      refine ff g1 ⟨hin, ff g2 ⟨hin, isPlace_yes h1 h2 (y1 ⟨hin, nf (by rw [c]; decide) ⟨hin, isInM_yes (by omega) hi (z1 ?_)⟩⟩)⟩⟩
      rw [ixT]
      refine ⟨vp_in_nI (by omega) (by omega), ?_, hI⟩
      rw [u2, kind_val ht (by omega), nI_cl (by omega)]
      exact (u4 i hi).symm
