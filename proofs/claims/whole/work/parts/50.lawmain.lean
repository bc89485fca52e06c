theorem x_arr {s : State} {args : Array Value} {ty : FieldType} (harr : (Cond.arrayClass ty).before args s = true) : ∃ cA, ArrOfT s cA ty ∧ s.vm.findClass ("[" ++ ty.toString) = some cA := by
  obtain ⟨cA, kA, comp, hfind, hk, hkind⟩ := Cond.arrayClass_spec harr
  exact ⟨cA, fun n z => ⟨fun k h => (by cases h), kA, hk, comp, hkind⟩, hfind⟩
theorem xi5 {L i : Nat} {x3 : Int32} (hL : L ≤ 2560) (hi : i ≤ L) (e : x3 = nI i) (h : ¬ Int32.ofNat L - 5 < x3) : i + 5 ≤ L := by
  have h1 : (nI L - nI 5).toInt = (L : Int) - (5 : Nat) := pk_sub_toInt (by omega) (by omega)
  have h2 : x3.toInt = (i : Int) := by rw [e]; exact nI_toInt (by omega)
  have h3 : ¬ (nI L - nI 5).toInt < x3.toInt := fun q => h (Int32.lt_iff_toInt_lt.mpr q)
  rw [h1, h2] at h3
  omega
theorem xin {L i : Nat} {x3 : Int32} (k : Nat) (hL : L ≤ 2560) (e : x3 = nI i) (h : i + k < L) : vp_in (x3 + nI k) L := by
  rw [e, nI_add]
  exact vp_in_nI h (by omega)
def xLen : Nat := 0
set_option maxHeartbeats 8000000 in
set_option maxRecDepth 100000 in
theorem law_loop {p : Program} {l : Launch} {e : Env} {s : State} {m : MethodId} {below : List Frame} {meth : Method} {c : Code} {dC : Nat → ClassId} {dI : Nat → Nat → Nat} {cI cJ cZ : ClassId} {h_p1 h_p2 : Nat} {ad_p1 : Nat → Nat} {ad_p1_growth : Nat → Nat} {ad_p1_growth_child : Nat → Nat} {ad_p1_growth_nodes : Nat → Nat} {ad_p1_hand : Nat → Nat} {ad_p1_net : Nat → Nat} {ad_p1_now : Nat → Nat} {ad_p1_ofPlaces : Nat → Nat} {ad_p1_ofSteps : Nat → Nat} {ad_p1_past : Nat → Nat} {ad_p1_reach : Nat → Nat} {ad_p1_reach_all : Nat → Nat} {ad_p1_reach_from : Nat → Nat} {ad_p1_reach_to : Nat → Nat} {ad_p1_told : Nat → Nat} {ad_p1_trial : Nat → Nat} {ad_p2 : Nat → Nat} {b L : Nat} {xs : Nat → Int32}  {Inv : (Nat → Int32) → (Nat → Nat → Int32) → (Nat → Nat → Int64) → (Nat → Int32) → (Nat → Nat → Int32) → (Nat → Nat → Int64) → Prop} (hx : p.tables.exec = Jvm.exec) (hb : c.code = cL_law) (hml : c.maxLocals = 4) (hown : s.vm.findClass RL = some m.cls) (hts : ∀ w ∈ wsL_law, w.before #[Value.ref b] s = true) (hK : va_K (dC, dI) vwCl (xT cI cJ cZ) s) (n1 : va_Nw xN1 s) (n2 : va_Nw xN2 s) (hX : va_X b L xs s s.heap) (hbl : b < s.heap.size) (hr : meth.sig.returnType = ret) (hlocks : meth.locks = false) (hL : L ≤ 2560) (h0 : St_0 Inv) (h1 : St_1 Inv) (h2 : St_2 Inv) (h3 : St_3 Inv) (h4 : St_4 Inv) (h5 : St_5 Inv) (h6 : St_6 Inv) (h7 : St_7 Inv) (h8 : St_8 Inv) (h9 : St_9 Inv) (h10 : St_10 Inv) (h11 : St_11 Inv) (h12 : St_12 Inv) (h13 : St_13 Inv) (h14 : St_14 Inv) (h15 : St_15 Inv) (h16 : St_16 Inv) (h17 : St_17 Inv) (h18 : St_18 Inv) (h19 : St_19 Inv) (h20 : St_20 Inv) (h21 : St_21 Inv) (h22 : St_22 Inv) (h23 : St_23 Inv) (h24 : St_24 Inv) (h25 : St_25 Inv) (h26 : St_26 Inv) (h27 : St_27 Inv) (h28 : St_28 Inv) (h29 : St_29 Inv) (h30 : St_30 Inv) (h31 : St_31 Inv) (h32 : St_32 Inv) (h33 : St_33 Inv) (h34 : St_34 Inv) (h35 : St_35 Inv) (h36 : St_36 Inv) (h37 : St_37 Inv) (h38 : St_38 Inv) (h39 : St_39 Inv) (h40 : St_40 Inv) (h41 : St_41 Inv) (h42 : St_42 Inv) (h43 : St_43 Inv) (h44 : St_44 Inv) (h45 : St_45 Inv) (h46 : St_46 Inv) (h47 : St_47 Inv) (h48 : St_48 Inv) (h49 : St_49 Inv) (h50 : St_50 Inv) (h51 : St_51 Inv) (h52 : St_52 Inv) (h53 : St_53 Inv) (h54 : St_54 Inv) : ∀ (n i : Nat) (x3 : Int32), i ≤ L → L < i + n → x3 = nI i → ∀ (XI : Nat → Int32) (XA : Nat → Nat → Int32) (XL : Nat → Nat → Int64) (MI : Nat → Int32) (MA : Nat → Nat → Int32) (ML : Nat → Nat → Int64), Inv XI XA XL MI MA ML → ∀ (H : Heap) (locs : List Loc) (ls : Array Slot), va_P (dC, dI) vwCl (wld_L_law cI cJ cZ h_p1 h_p2 ad_p1 ad_p1_growth ad_p1_growth_child ad_p1_growth_nodes ad_p1_hand ad_p1_net ad_p1_now ad_p1_ofPlaces ad_p1_ofSteps ad_p1_past ad_p1_reach ad_p1_reach_all ad_p1_reach_from ad_p1_reach_to ad_p1_told ad_p1_trial ad_p2 (XI 0) (XI 1) (XI 2) (XI 3) (XI 4) (XI 5) (XI 6) (XI 7) (XI 8) (XI 9) (XI 10) (XI 11) (XI 12) (XI 13) (XI 14) (XI 15) (XI 16) (XI 17) (XI 18) (XI 19) (XI 20) (XI 21) (XI 22) (XI 23) (MI 0) (MI 1) (MI 2) (MI 3) (MI 4) (MI 5) (MI 6) (MI 7) (MI 8) (MI 9) (MI 10) (MI 11) (MI 12) (MI 13) (MI 14) (XA 0) (XL 0) (XA 1) (XA 2) (XA 3) (XA 4) (XA 5) (XA 6) (XA 7) (XA 8) (XA 9) (XA 10) (XA 11) (XA 12) (XA 13) (XA 14) (XA 15) (XA 16) (XA 17) (XA 18) (XA 19) (XA 20) (XL 1) (XL 2) (XA 21) (XA 22) (XL 3) (XA 23) (XA 24) (XA 25) (XL 4) (XA 26) (XA 27) (XA 28) (XA 29) (XA 30) (XA 31) (XA 32) (XL 5) (XA 33) (XA 34) (XA 35) (XA 36) (XA 37) (XL 6) (XA 38) (XA 39) (XL 7) (MA 0) (MA 1) (MA 2) (MA 3) (MA 4) (MA 5) (MA 6) (MA 7) (MA 8) (MA 9) (MA 10) (MA 11) (MA 12) (MA 13) (MA 14) (MA 15) (MA 16) (MA 17) (MA 18) (MA 19) (MA 20) (MA 21) (MA 22) (MA 23) (MA 24) (MA 25) (MA 26) (ML 0) (MA 27) (MA 28) (MA 29) (MA 30) (MA 31) (MA 32) (MA 33)) H → va_D (fun q : Nat => s.heap.size ≤ q) (wld_L_law cI cJ cZ h_p1 h_p2 ad_p1 ad_p1_growth ad_p1_growth_child ad_p1_growth_nodes ad_p1_hand ad_p1_net ad_p1_now ad_p1_ofPlaces ad_p1_ofSteps ad_p1_past ad_p1_reach ad_p1_reach_all ad_p1_reach_from ad_p1_reach_to ad_p1_told ad_p1_trial ad_p2 (XI 0) (XI 1) (XI 2) (XI 3) (XI 4) (XI 5) (XI 6) (XI 7) (XI 8) (XI 9) (XI 10) (XI 11) (XI 12) (XI 13) (XI 14) (XI 15) (XI 16) (XI 17) (XI 18) (XI 19) (XI 20) (XI 21) (XI 22) (XI 23) (MI 0) (MI 1) (MI 2) (MI 3) (MI 4) (MI 5) (MI 6) (MI 7) (MI 8) (MI 9) (MI 10) (MI 11) (MI 12) (MI 13) (MI 14) (XA 0) (XL 0) (XA 1) (XA 2) (XA 3) (XA 4) (XA 5) (XA 6) (XA 7) (XA 8) (XA 9) (XA 10) (XA 11) (XA 12) (XA 13) (XA 14) (XA 15) (XA 16) (XA 17) (XA 18) (XA 19) (XA 20) (XL 1) (XL 2) (XA 21) (XA 22) (XL 3) (XA 23) (XA 24) (XA 25) (XL 4) (XA 26) (XA 27) (XA 28) (XA 29) (XA 30) (XA 31) (XA 32) (XL 5) (XA 33) (XA 34) (XA 35) (XA 36) (XA 37) (XL 6) (XA 38) (XA 39) (XL 7) (MA 0) (MA 1) (MA 2) (MA 3) (MA 4) (MA 5) (MA 6) (MA 7) (MA 8) (MA 9) (MA 10) (MA 11) (MA 12) (MA 13) (MA 14) (MA 15) (MA 16) (MA 17) (MA 18) (MA 19) (MA 20) (MA 21) (MA 22) (MA 23) (MA 24) (MA 25) (MA 26) (ML 0) (MA 27) (MA 28) (MA 29) (MA 30) (MA 31) (MA 32) (MA 33)) → va_S (fun q : Nat => s.heap.size ≤ q) s.heap H locs → lv_has ls 4 [(0, .ref b), (1, .ref h_p1), (2, .ref h_p2), (3, .int x3)] → W p l e room_1 s m #[Value.ref b] below meth c H locs 100 914209 (lw_Z below #[Value.ref b] s) (F0 m 18 ls []) := by
  have hA : ∀ q : Nat, s.heap.size ≤ q → (fun q : Nat => s.heap.size ≤ q) q := fun _ h => h
  have hbA : ¬ (fun q : Nat => s.heap.size ≤ q) b := Nat.not_le.mpr hbl
  intro n
  induction n with
  | zero => intro i x3 h1 h2; exact absurd h2 (by omega)
  | succ n ih =>
    intro i x3 hi hin ex3 XI XA XL MI MA ML hI H locs ls hP hD hS hl
    refine lv_iload_n hx hb dL_law_18 rfl (lv_at hl 3 rfl) ?_
    refine lv_aload_n hx hb dL_law_19 rfl (lv_at hl 0 rfl) ?_
    refine va_slen hx hb hX hbl hbA hS dL_law_20 ?_
    refine lv_iconst (v := 5) hx hb dL_law_21 (by decide) ?_
    refine lv_isub hx hb dL_law_22 ?_
    refine lv_icmp_gt (tgt := 1709) hx hb dL_law_23 (by decide) (fun c1 => ?_) (fun c1 => ?_)
    · refine lv_iconst (v := 1) hx hb dL_law_1709 (by decide) ?_
      refine va_forget (fun q hq => hS.2.2 q hq) ?_
      refine W.widen (k := 600000) (n := 7302250) (Nat.le_of_ble_eq_true rfl) (Nat.le_of_ble_eq_true rfl) ?_
      exact lw_ret hx hb hr hlocks dL_law_1710
    · have hle5 : i + 5 ≤ L := xi5 hL hi ex3 c1
      have hi0 : vp_in x3 L := by rw [ex3]; exact vp_in_nI (by omega) (by omega)
      have hi1 : vp_in (x3 + 1) L := xin 1 hL ex3 (by omega)
      have hi2 : vp_in (x3 + 2) L := xin 2 hL ex3 (by omega)
      have hi3 : vp_in (x3 + 3) L := xin 3 hL ex3 (by omega)
      have hi4 : vp_in (x3 + 4) L := xin 4 hL ex3 (by omega)
      refine lv_aload_n hx hb dL_law_26 rfl (lv_at hl 0 rfl) ?_
      refine lv_iload_n hx hb dL_law_27 rfl (lv_at hl 3 rfl) ?_
      refine va_sld hx hb hX hbl hbA hS hi0 dL_law_28 ?_
      refine lv_bipush (v := 63) hx hb dL_law_29 (by decide) ?_
      refine lv_iand hx hb dL_law_31 ?_
      obtain ⟨j, hj, ej⟩ := pk_andE (xs x3.toNatClampNeg) (m := 63) 6 (by decide)
      rw [ej]
      have hk : ∀ (XI : Nat → Int32) (XA : Nat → Nat → Int32) (XL : Nat → Nat → Int64) (MI : Nat → Int32) (MA : Nat → Nat → Int32) (ML : Nat → Nat → Int64) (H : Heap) (locs : List Loc) (ls : Array Slot), Inv XI XA XL MI MA ML → va_P (dC, dI) vwCl (wld_L_law cI cJ cZ h_p1 h_p2 ad_p1 ad_p1_growth ad_p1_growth_child ad_p1_growth_nodes ad_p1_hand ad_p1_net ad_p1_now ad_p1_ofPlaces ad_p1_ofSteps ad_p1_past ad_p1_reach ad_p1_reach_all ad_p1_reach_from ad_p1_reach_to ad_p1_told ad_p1_trial ad_p2 (XI 0) (XI 1) (XI 2) (XI 3) (XI 4) (XI 5) (XI 6) (XI 7) (XI 8) (XI 9) (XI 10) (XI 11) (XI 12) (XI 13) (XI 14) (XI 15) (XI 16) (XI 17) (XI 18) (XI 19) (XI 20) (XI 21) (XI 22) (XI 23) (MI 0) (MI 1) (MI 2) (MI 3) (MI 4) (MI 5) (MI 6) (MI 7) (MI 8) (MI 9) (MI 10) (MI 11) (MI 12) (MI 13) (MI 14) (XA 0) (XL 0) (XA 1) (XA 2) (XA 3) (XA 4) (XA 5) (XA 6) (XA 7) (XA 8) (XA 9) (XA 10) (XA 11) (XA 12) (XA 13) (XA 14) (XA 15) (XA 16) (XA 17) (XA 18) (XA 19) (XA 20) (XL 1) (XL 2) (XA 21) (XA 22) (XL 3) (XA 23) (XA 24) (XA 25) (XL 4) (XA 26) (XA 27) (XA 28) (XA 29) (XA 30) (XA 31) (XA 32) (XL 5) (XA 33) (XA 34) (XA 35) (XA 36) (XA 37) (XL 6) (XA 38) (XA 39) (XL 7) (MA 0) (MA 1) (MA 2) (MA 3) (MA 4) (MA 5) (MA 6) (MA 7) (MA 8) (MA 9) (MA 10) (MA 11) (MA 12) (MA 13) (MA 14) (MA 15) (MA 16) (MA 17) (MA 18) (MA 19) (MA 20) (MA 21) (MA 22) (MA 23) (MA 24) (MA 25) (MA 26) (ML 0) (MA 27) (MA 28) (MA 29) (MA 30) (MA 31) (MA 32) (MA 33)) H → va_D (fun q : Nat => s.heap.size ≤ q) (wld_L_law cI cJ cZ h_p1 h_p2 ad_p1 ad_p1_growth ad_p1_growth_child ad_p1_growth_nodes ad_p1_hand ad_p1_net ad_p1_now ad_p1_ofPlaces ad_p1_ofSteps ad_p1_past ad_p1_reach ad_p1_reach_all ad_p1_reach_from ad_p1_reach_to ad_p1_told ad_p1_trial ad_p2 (XI 0) (XI 1) (XI 2) (XI 3) (XI 4) (XI 5) (XI 6) (XI 7) (XI 8) (XI 9) (XI 10) (XI 11) (XI 12) (XI 13) (XI 14) (XI 15) (XI 16) (XI 17) (XI 18) (XI 19) (XI 20) (XI 21) (XI 22) (XI 23) (MI 0) (MI 1) (MI 2) (MI 3) (MI 4) (MI 5) (MI 6) (MI 7) (MI 8) (MI 9) (MI 10) (MI 11) (MI 12) (MI 13) (MI 14) (XA 0) (XL 0) (XA 1) (XA 2) (XA 3) (XA 4) (XA 5) (XA 6) (XA 7) (XA 8) (XA 9) (XA 10) (XA 11) (XA 12) (XA 13) (XA 14) (XA 15) (XA 16) (XA 17) (XA 18) (XA 19) (XA 20) (XL 1) (XL 2) (XA 21) (XA 22) (XL 3) (XA 23) (XA 24) (XA 25) (XL 4) (XA 26) (XA 27) (XA 28) (XA 29) (XA 30) (XA 31) (XA 32) (XL 5) (XA 33) (XA 34) (XA 35) (XA 36) (XA 37) (XL 6) (XA 38) (XA 39) (XL 7) (MA 0) (MA 1) (MA 2) (MA 3) (MA 4) (MA 5) (MA 6) (MA 7) (MA 8) (MA 9) (MA 10) (MA 11) (MA 12) (MA 13) (MA 14) (MA 15) (MA 16) (MA 17) (MA 18) (MA 19) (MA 20) (MA 21) (MA 22) (MA 23) (MA 24) (MA 25) (MA 26) (ML 0) (MA 27) (MA 28) (MA 29) (MA 30) (MA 31) (MA 32) (MA 33)) → va_S (fun q : Nat => s.heap.size ≤ q) s.heap H locs → lv_has ls 4 [(0, .ref b), (1, .ref h_p1), (2, .ref h_p2), (3, .int x3)] → W p l e room_1 s m #[Value.ref b] below meth c H locs 100 914209 (lw_Z below #[Value.ref b] s) (F0 m 1703 ls []) := by
        intro XI XA XL MI MA ML H locs ls hI hP hD hS hl
        obtain ⟨x9, ex9⟩ : ∃ y : Int32, y = x3 + 5 := ⟨_, rfl⟩
        refine lv_iinc (v := x9) (lv' := [(3, .int x9), (0, .ref b), (1, .ref h_p1), (2, .ref h_p2)]) hx hb dL_law_1703 hl (k := 3) rfl (by rw [ex9]; rfl) (by decide) rfl (fun ls hl => ?_)
        refine lv_goto (tgt := 18) hx hb dL_law_1706 (by decide) ?_
        exact ih (i + 5) x9 hle5 (by omega) (by rw [ex9, ex3]; exact nI_add i 5) _ _ _ _ _ _ hI _ _ _ hP hD hS (lv_sub hl [1, 2, 3, 0] rfl)
      by_cases hgt : 54 < j
      · refine lv_tableOut (tgt := 1703) hx hb dL_law_32 (Or.inr (by rw [nI_toInt (by omega)]; omega)) (by decide) ?_
        exact hk _ _ _ _ _ _ _ _ _ hI hP hD hS hl
      have hlo : ¬ (nI j).toInt < 0 := by rw [nI_toInt (by omega)]; omega
      have hhi : ¬ 54 < (nI j).toInt := by rw [nI_toInt (by omega)]; omega
      by_cases e0 : j = 0
      · subst e0
        refine lv_tableIn (tgt := 268) hx hb dL_law_32 hlo hhi (by rfl) (by decide) ?_
        exact law_c0 hx hb hml hown hts hK hA n1 n2 hX hbl hbA hi1 hi2 hi3 hi4 (h0 _ _ _ _ _ _ hI _) hk H locs ls hP hD hS hl
      by_cases e1 : j = 1
      · subst e1
        refine lv_tableIn (tgt := 291) hx hb dL_law_32 hlo hhi (by rfl) (by decide) ?_
        exact law_c1 hx hb hml hown hts hK hA n1 n2 hX hbl hbA hi1 hi2 hi3 hi4 (h1 _ _ _ _ _ _ hI _) hk H locs ls hP hD hS hl
      by_cases e2 : j = 2
      · subst e2
        refine lv_tableIn (tgt := 314) hx hb dL_law_32 hlo hhi (by rfl) (by decide) ?_
        exact law_c2 hx hb hml hown hts hK hA n1 n2 hX hbl hbA hi1 hi2 hi3 hi4 (h2 _ _ _ _ _ _ hI _ _ _ _) hk H locs ls hP hD hS hl
      by_cases e3 : j = 3
      · subst e3
        refine lv_tableIn (tgt := 367) hx hb dL_law_32 hlo hhi (by rfl) (by decide) ?_
        exact law_c3 hx hb hml hown hts hK hA n1 n2 hX hbl hbA hi1 hi2 hi3 hi4 (h3 _ _ _ _ _ _ hI _ _ _) hk H locs ls hP hD hS hl
      by_cases e4 : j = 4
      · subst e4
        refine lv_tableIn (tgt := 410) hx hb dL_law_32 hlo hhi (by rfl) (by decide) ?_
        exact law_c4 hx hb hml hown hts hK hA n1 n2 hX hbl hbA hi1 hi2 hi3 hi4 (h4 _ _ _ _ _ _ hI _ _ _) hk H locs ls hP hD hS hl
      by_cases e5 : j = 5
      · subst e5
        refine lv_tableIn (tgt := 453) hx hb dL_law_32 hlo hhi (by rfl) (by decide) ?_
        exact law_c5 hx hb hml hown hts hK hA n1 n2 hX hbl hbA hi1 hi2 hi3 hi4 (h5 _ _ _ _ _ _ hI _ _ _ _) hk H locs ls hP hD hS hl
      by_cases e6 : j = 6
      · subst e6
        refine lv_tableIn (tgt := 506) hx hb dL_law_32 hlo hhi (by rfl) (by decide) ?_
        exact law_c6 hx hb hml hown hts hK hA n1 n2 hX hbl hbA hi1 hi2 hi3 hi4 (h6 _ _ _ _ _ _ hI _ _ _) hk H locs ls hP hD hS hl
      by_cases e7 : j = 7
      · subst e7
        refine lv_tableIn (tgt := 549) hx hb dL_law_32 hlo hhi (by rfl) (by decide) ?_
        exact law_c7 hx hb hml hown hts hK hA n1 n2 hX hbl hbA hi1 hi2 hi3 hi4 (h7 _ _ _ _ _ _ hI _ _) hk H locs ls hP hD hS hl
      by_cases e8 : j = 8
      · subst e8
        refine lv_tableIn (tgt := 582) hx hb dL_law_32 hlo hhi (by rfl) (by decide) ?_
        exact law_c8 hx hb hml hown hts hK hA n1 n2 hX hbl hbA hi1 hi2 hi3 hi4 (h8 _ _ _ _ _ _ hI _ _) hk H locs ls hP hD hS hl
      by_cases e9 : j = 9
      · subst e9
        refine lv_tableIn (tgt := 615) hx hb dL_law_32 hlo hhi (by rfl) (by decide) ?_
        exact law_c9 hx hb hml hown hts hK hA n1 n2 hX hbl hbA hi1 hi2 hi3 hi4 (h9 _ _ _ _ _ _ hI _ _) hk H locs ls hP hD hS hl
      by_cases e10 : j = 10
      · subst e10
        refine lv_tableIn (tgt := 648) hx hb dL_law_32 hlo hhi (by rfl) (by decide) ?_
        exact law_c10 hx hb hml hown hts hK hA n1 n2 hX hbl hbA hi1 hi2 hi3 hi4 (h10 _ _ _ _ _ _ hI _) hk H locs ls hP hD hS hl
      by_cases e11 : j = 11
      · subst e11
        refine lv_tableIn (tgt := 671) hx hb dL_law_32 hlo hhi (by rfl) (by decide) ?_
        exact law_c11 hx hb hml hown hts hK hA n1 n2 hX hbl hbA hi1 hi2 hi3 hi4 (h11 _ _ _ _ _ _ hI _) hk H locs ls hP hD hS hl
      by_cases e12 : j = 12
      · subst e12
        refine lv_tableIn (tgt := 694) hx hb dL_law_32 hlo hhi (by rfl) (by decide) ?_
        exact law_c12 hx hb hml hown hts hK hA n1 n2 hX hbl hbA hi1 hi2 hi3 hi4 (h12 _ _ _ _ _ _ hI _ _) hk H locs ls hP hD hS hl
      by_cases e13 : j = 13
      · subst e13
        refine lv_tableIn (tgt := 727) hx hb dL_law_32 hlo hhi (by rfl) (by decide) ?_
        exact law_c13 hx hb hml hown hts hK hA n1 n2 hX hbl hbA hi1 hi2 hi3 hi4 (h13 _ _ _ _ _ _ hI _) hk H locs ls hP hD hS hl
      by_cases e14 : j = 14
      · subst e14
        refine lv_tableIn (tgt := 750) hx hb dL_law_32 hlo hhi (by rfl) (by decide) ?_
        exact law_c14 hx hb hml hown hts hK hA n1 n2 hX hbl hbA hi1 hi2 hi3 hi4 (h14 _ _ _ _ _ _ hI _) hk H locs ls hP hD hS hl
      by_cases e15 : j = 15
      · subst e15
        refine lv_tableIn (tgt := 773) hx hb dL_law_32 hlo hhi (by rfl) (by decide) ?_
        exact law_c15 hx hb hml hown hts hK hA n1 n2 hX hbl hbA hi1 hi2 hi3 hi4 (h15 _ _ _ _ _ _ hI _) hk H locs ls hP hD hS hl
      by_cases e16 : j = 16
      · subst e16
        refine lv_tableIn (tgt := 796) hx hb dL_law_32 hlo hhi (by rfl) (by decide) ?_
        exact law_c16 hx hb hml hown hts hK hA n1 n2 hX hbl hbA hi1 hi2 hi3 hi4 (h16 _ _ _ _ _ _ hI _) hk H locs ls hP hD hS hl
      by_cases e17 : j = 17
      · subst e17
        refine lv_tableIn (tgt := 819) hx hb dL_law_32 hlo hhi (by rfl) (by decide) ?_
        exact law_c17 hx hb hml hown hts hK hA n1 n2 hX hbl hbA hi1 hi2 hi3 hi4 (h17 _ _ _ _ _ _ hI) hk H locs ls hP hD hS hl
      by_cases e18 : j = 18
      · subst e18
        refine lv_tableIn (tgt := 832) hx hb dL_law_32 hlo hhi (by rfl) (by decide) ?_
        exact law_c18 hx hb hml hown hts hK hA n1 n2 hX hbl hbA hi1 hi2 hi3 hi4 (h18 _ _ _ _ _ _ hI _) hk H locs ls hP hD hS hl
      by_cases e19 : j = 19
      · subst e19
        refine lv_tableIn (tgt := 855) hx hb dL_law_32 hlo hhi (by rfl) (by decide) ?_
        exact law_c19 hx hb hml hown hts hK hA n1 n2 hX hbl hbA hi1 hi2 hi3 hi4 (h19 _ _ _ _ _ _ hI _ _) hk H locs ls hP hD hS hl
      by_cases e20 : j = 20
      · subst e20
        refine lv_tableIn (tgt := 888) hx hb dL_law_32 hlo hhi (by rfl) (by decide) ?_
        exact law_c20 hx hb hml hown hts hK hA n1 n2 hX hbl hbA hi1 hi2 hi3 hi4 (h20 _ _ _ _ _ _ hI _) hk H locs ls hP hD hS hl
      by_cases e21 : j = 21
      · subst e21
        refine lv_tableIn (tgt := 911) hx hb dL_law_32 hlo hhi (by rfl) (by decide) ?_
        exact law_c21 hx hb hml hown hts hK hA n1 n2 hX hbl hbA hi1 hi2 hi3 hi4 (h21 _ _ _ _ _ _ hI _ _ _) hk H locs ls hP hD hS hl
      by_cases e22 : j = 22
      · subst e22
        refine lv_tableIn (tgt := 954) hx hb dL_law_32 hlo hhi (by rfl) (by decide) ?_
        exact law_c22 hx hb hml hown hts hK hA n1 n2 hX hbl hbA hi1 hi2 hi3 hi4 (h22 _ _ _ _ _ _ hI _) hk H locs ls hP hD hS hl
      by_cases e23 : j = 23
      · subst e23
        refine lv_tableIn (tgt := 977) hx hb dL_law_32 hlo hhi (by rfl) (by decide) ?_
        exact law_c23 hx hb hml hown hts hK hA n1 n2 hX hbl hbA hi1 hi2 hi3 hi4 (h23 _ _ _ _ _ _ hI) hk H locs ls hP hD hS hl
      by_cases e24 : j = 24
      · subst e24
        refine lv_tableIn (tgt := 990) hx hb dL_law_32 hlo hhi (by rfl) (by decide) ?_
        exact law_c24 hx hb hml hown hts hK hA n1 n2 hX hbl hbA hi1 hi2 hi3 hi4 (h24 _ _ _ _ _ _ hI _) hk H locs ls hP hD hS hl
      by_cases e25 : j = 25
      · subst e25
        refine lv_tableIn (tgt := 1013) hx hb dL_law_32 hlo hhi (by rfl) (by decide) ?_
        exact law_c25 hx hb hml hown hts hK hA n1 n2 hX hbl hbA hi1 hi2 hi3 hi4 (h25 _ _ _ _ _ _ hI) hk H locs ls hP hD hS hl
      by_cases e26 : j = 26
      · subst e26
        refine lv_tableIn (tgt := 1026) hx hb dL_law_32 hlo hhi (by rfl) (by decide) ?_
        exact law_c26 hx hb hml hown hts hK hA n1 n2 hX hbl hbA hi1 hi2 hi3 hi4 (h26 _ _ _ _ _ _ hI _) hk H locs ls hP hD hS hl
      by_cases e27 : j = 27
      · subst e27
        refine lv_tableIn (tgt := 1049) hx hb dL_law_32 hlo hhi (by rfl) (by decide) ?_
        exact law_c27 hx hb hml hown hts hK hA n1 n2 hX hbl hbA hi1 hi2 hi3 hi4 (h27 _ _ _ _ _ _ hI _ _) hk H locs ls hP hD hS hl
      by_cases e28 : j = 28
      · subst e28
        refine lv_tableIn (tgt := 1082) hx hb dL_law_32 hlo hhi (by rfl) (by decide) ?_
        exact law_c28 hx hb hml hown hts hK hA n1 n2 hX hbl hbA hi1 hi2 hi3 hi4 (h28 _ _ _ _ _ _ hI _ _) hk H locs ls hP hD hS hl
      by_cases e29 : j = 29
      · subst e29
        refine lv_tableIn (tgt := 1115) hx hb dL_law_32 hlo hhi (by rfl) (by decide) ?_
        exact law_c29 hx hb hml hown hts hK hA n1 n2 hX hbl hbA hi1 hi2 hi3 hi4 (h29 _ _ _ _ _ _ hI _) hk H locs ls hP hD hS hl
      by_cases e30 : j = 30
      · subst e30
        refine lv_tableIn (tgt := 1138) hx hb dL_law_32 hlo hhi (by rfl) (by decide) ?_
        exact law_c30 hx hb hml hown hts hK hA n1 n2 hX hbl hbA hi1 hi2 hi3 hi4 (h30 _ _ _ _ _ _ hI) hk H locs ls hP hD hS hl
      by_cases e31 : j = 31
      · subst e31
        refine lv_tableIn (tgt := 1151) hx hb dL_law_32 hlo hhi (by rfl) (by decide) ?_
        exact law_c31 hx hb hml hown hts hK hA n1 n2 hX hbl hbA hi1 hi2 hi3 hi4 (h31 _ _ _ _ _ _ hI _) hk H locs ls hP hD hS hl
      by_cases e32 : j = 32
      · subst e32
        refine lv_tableIn (tgt := 1174) hx hb dL_law_32 hlo hhi (by rfl) (by decide) ?_
        exact law_c32 hx hb hml hown hts hK hA n1 n2 hX hbl hbA hi1 hi2 hi3 hi4 (h32 _ _ _ _ _ _ hI _) hk H locs ls hP hD hS hl
      by_cases e33 : j = 33
      · subst e33
        refine lv_tableIn (tgt := 1197) hx hb dL_law_32 hlo hhi (by rfl) (by decide) ?_
        exact law_c33 hx hb hml hown hts hK hA n1 n2 hX hbl hbA hi1 hi2 hi3 hi4 (h33 _ _ _ _ _ _ hI _) hk H locs ls hP hD hS hl
      by_cases e34 : j = 34
      · subst e34
        refine lv_tableIn (tgt := 1220) hx hb dL_law_32 hlo hhi (by rfl) (by decide) ?_
        exact law_c34 hx hb hml hown hts hK hA n1 n2 hX hbl hbA hi1 hi2 hi3 hi4 (h34 _ _ _ _ _ _ hI _ _ _) hk H locs ls hP hD hS hl
      by_cases e35 : j = 35
      · subst e35
        refine lv_tableIn (tgt := 1263) hx hb dL_law_32 hlo hhi (by rfl) (by decide) ?_
        exact law_c35 hx hb hml hown hts hK hA n1 n2 hX hbl hbA hi1 hi2 hi3 hi4 (h35 _ _ _ _ _ _ hI) hk H locs ls hP hD hS hl
      by_cases e36 : j = 36
      · subst e36
        refine lv_tableIn (tgt := 1276) hx hb dL_law_32 hlo hhi (by rfl) (by decide) ?_
        exact law_c36 hx hb hml hown hts hK hA n1 n2 hX hbl hbA hi1 hi2 hi3 hi4 (h36 _ _ _ _ _ _ hI _) hk H locs ls hP hD hS hl
      by_cases e37 : j = 37
      · subst e37
        refine lv_tableIn (tgt := 1299) hx hb dL_law_32 hlo hhi (by rfl) (by decide) ?_
        exact law_c37 hx hb hml hown hts hK hA n1 n2 hX hbl hbA hi1 hi2 hi3 hi4 (h37 _ _ _ _ _ _ hI _ _) hk H locs ls hP hD hS hl
      by_cases e38 : j = 38
      · subst e38
        refine lv_tableIn (tgt := 1332) hx hb dL_law_32 hlo hhi (by rfl) (by decide) ?_
        exact law_c38 hx hb hml hown hts hK hA n1 n2 hX hbl hbA hi1 hi2 hi3 hi4 (h38 _ _ _ _ _ _ hI _ _) hk H locs ls hP hD hS hl
      by_cases e39 : j = 39
      · subst e39
        refine lv_tableIn (tgt := 1365) hx hb dL_law_32 hlo hhi (by rfl) (by decide) ?_
        exact law_c39 hx hb hml hown hts hK hA n1 n2 hX hbl hbA hi1 hi2 hi3 hi4 (h39 _ _ _ _ _ _ hI) hk H locs ls hP hD hS hl
      by_cases e40 : j = 40
      · subst e40
        refine lv_tableIn (tgt := 1378) hx hb dL_law_32 hlo hhi (by rfl) (by decide) ?_
        exact law_c40 hx hb hml hown hts hK hA n1 n2 hX hbl hbA hi1 hi2 hi3 hi4 (h40 _ _ _ _ _ _ hI _) hk H locs ls hP hD hS hl
      by_cases e41 : j = 41
      · subst e41
        refine lv_tableIn (tgt := 1401) hx hb dL_law_32 hlo hhi (by rfl) (by decide) ?_
        exact law_c41 hx hb hml hown hts hK hA n1 n2 hX hbl hbA hi1 hi2 hi3 hi4 (h41 _ _ _ _ _ _ hI) hk H locs ls hP hD hS hl
      by_cases e42 : j = 42
      · subst e42
        refine lv_tableIn (tgt := 1414) hx hb dL_law_32 hlo hhi (by rfl) (by decide) ?_
        exact law_c42 hx hb hml hown hts hK hA n1 n2 hX hbl hbA hi1 hi2 hi3 hi4 (h42 _ _ _ _ _ _ hI) hk H locs ls hP hD hS hl
      by_cases e43 : j = 43
      · subst e43
        refine lv_tableIn (tgt := 1427) hx hb dL_law_32 hlo hhi (by rfl) (by decide) ?_
        exact law_c43 hx hb hml hown hts hK hA n1 n2 hX hbl hbA hi1 hi2 hi3 hi4 (h43 _ _ _ _ _ _ hI _ _) hk H locs ls hP hD hS hl
      by_cases e44 : j = 44
      · subst e44
        refine lv_tableIn (tgt := 1460) hx hb dL_law_32 hlo hhi (by rfl) (by decide) ?_
        exact law_c44 hx hb hml hown hts hK hA n1 n2 hX hbl hbA hi1 hi2 hi3 hi4 (h44 _ _ _ _ _ _ hI) hk H locs ls hP hD hS hl
      by_cases e45 : j = 45
      · subst e45
        refine lv_tableIn (tgt := 1473) hx hb dL_law_32 hlo hhi (by rfl) (by decide) ?_
        exact law_c45 hx hb hml hown hts hK hA n1 n2 hX hbl hbA hi1 hi2 hi3 hi4 (h45 _ _ _ _ _ _ hI _ _) hk H locs ls hP hD hS hl
      by_cases e46 : j = 46
      · subst e46
        refine lv_tableIn (tgt := 1506) hx hb dL_law_32 hlo hhi (by rfl) (by decide) ?_
        exact law_c46 hx hb hml hown hts hK hA n1 n2 hX hbl hbA hi1 hi2 hi3 hi4 (h46 _ _ _ _ _ _ hI) hk H locs ls hP hD hS hl
      by_cases e47 : j = 47
      · subst e47
        refine lv_tableIn (tgt := 1519) hx hb dL_law_32 hlo hhi (by rfl) (by decide) ?_
        exact law_c47 hx hb hml hown hts hK hA n1 n2 hX hbl hbA hi1 hi2 hi3 hi4 (h47 _ _ _ _ _ _ hI) hk H locs ls hP hD hS hl
      by_cases e48 : j = 48
      · subst e48
        refine lv_tableIn (tgt := 1532) hx hb dL_law_32 hlo hhi (by rfl) (by decide) ?_
        exact law_c48 hx hb hml hown hts hK hA n1 n2 hX hbl hbA hi1 hi2 hi3 hi4 (h48 _ _ _ _ _ _ hI _ _) hk H locs ls hP hD hS hl
      by_cases e49 : j = 49
      · subst e49
        refine lv_tableIn (tgt := 1565) hx hb dL_law_32 hlo hhi (by rfl) (by decide) ?_
        exact law_c49 hx hb hml hown hts hK hA n1 n2 hX hbl hbA hi1 hi2 hi3 hi4 (h49 _ _ _ _ _ _ hI _) hk H locs ls hP hD hS hl
      by_cases e50 : j = 50
      · subst e50
        refine lv_tableIn (tgt := 1588) hx hb dL_law_32 hlo hhi (by rfl) (by decide) ?_
        exact law_c50 hx hb hml hown hts hK hA n1 n2 hX hbl hbA hi1 hi2 hi3 hi4 (h50 _ _ _ _ _ _ hI _ _) hk H locs ls hP hD hS hl
      by_cases e51 : j = 51
      · subst e51
        refine lv_tableIn (tgt := 1621) hx hb dL_law_32 hlo hhi (by rfl) (by decide) ?_
        exact law_c51 hx hb hml hown hts hK hA n1 n2 hX hbl hbA hi1 hi2 hi3 hi4 (h51 _ _ _ _ _ _ hI _ _) hk H locs ls hP hD hS hl
      by_cases e52 : j = 52
      · subst e52
        refine lv_tableIn (tgt := 1654) hx hb dL_law_32 hlo hhi (by rfl) (by decide) ?_
        exact law_c52 hx hb hml hown hts hK hA n1 n2 hX hbl hbA hi1 hi2 hi3 hi4 (h52 _ _ _ _ _ _ hI) hk H locs ls hP hD hS hl
      by_cases e53 : j = 53
      · subst e53
        refine lv_tableIn (tgt := 1667) hx hb dL_law_32 hlo hhi (by rfl) (by decide) ?_
        exact law_c53 hx hb hml hown hts hK hA n1 n2 hX hbl hbA hi1 hi2 hi3 hi4 (h53 _ _ _ _ _ _ hI) hk H locs ls hP hD hS hl
      by_cases e54 : j = 54
      · subst e54
        refine lv_tableIn (tgt := 1680) hx hb dL_law_32 hlo hhi (by rfl) (by decide) ?_
        exact law_c54 hx hb hml hown hts hK hA n1 n2 hX hbl hbA hi1 hi2 hi3 hi4 (h54 _ _ _ _ _ _ hI _) hk H locs ls hP hD hS hl
      exact absurd hgt (by omega)
def XI0 : Nat → Int32 := fun k => if k = 1 then -2000000005 else if k = 3 then -1 else if k = 4 then -1 else 0
def MI0 : Nat → Int32 := fun k => if k = 9 then -2000000005 else 0
def A0 : Nat → Nat → Int32 := fun _ _ => 0
def L0 : Nat → Nat → Int64 := fun _ _ => 0
set_option maxHeartbeats 8000000 in
set_option maxRecDepth 100000 in
/-- the law from its entry, over a relation that holds at the start and that every case keeps -/
theorem whole_open {Inv : (Nat → Int32) → (Nat → Nat → Int32) → (Nat → Nat → Int64) → (Nat → Int32) → (Nat → Nat → Int32) → (Nat → Nat → Int64) → Prop} (hI0 : Inv XI0 A0 L0 MI0 A0 L0) (h0 : St_0 Inv) (h1 : St_1 Inv) (h2 : St_2 Inv) (h3 : St_3 Inv) (h4 : St_4 Inv) (h5 : St_5 Inv) (h6 : St_6 Inv) (h7 : St_7 Inv) (h8 : St_8 Inv) (h9 : St_9 Inv) (h10 : St_10 Inv) (h11 : St_11 Inv) (h12 : St_12 Inv) (h13 : St_13 Inv) (h14 : St_14 Inv) (h15 : St_15 Inv) (h16 : St_16 Inv) (h17 : St_17 Inv) (h18 : St_18 Inv) (h19 : St_19 Inv) (h20 : St_20 Inv) (h21 : St_21 Inv) (h22 : St_22 Inv) (h23 : St_23 Inv) (h24 : St_24 Inv) (h25 : St_25 Inv) (h26 : St_26 Inv) (h27 : St_27 Inv) (h28 : St_28 Inv) (h29 : St_29 Inv) (h30 : St_30 Inv) (h31 : St_31 Inv) (h32 : St_32 Inv) (h33 : St_33 Inv) (h34 : St_34 Inv) (h35 : St_35 Inv) (h36 : St_36 Inv) (h37 : St_37 Inv) (h38 : St_38 Inv) (h39 : St_39 Inv) (h40 : St_40 Inv) (h41 : St_41 Inv) (h42 : St_42 Inv) (h43 : St_43 Inv) (h44 : St_44 Inv) (h45 : St_45 Inv) (h46 : St_46 Inv) (h47 : St_47 Inv) (h48 : St_48 Inv) (h49 : St_49 Inv) (h50 : St_50 Inv) (h51 : St_51 Inv) (h52 : St_52 Inv) (h53 : St_53 Inv) (h54 : St_54 Inv) {p : Program} {e : Env} {s : State} {m : MethodId} {below : List Frame} {meth : Method} {c : Code} (l : Launch) {b L : Nat} {xs : Nat → Int32} (hL : L ≤ 2560) (C0 : lw_At p s m meth c b L xs) : W p l e room_1 s m #[Value.ref b] below meth c s.heap [] 0 0 (lw_Z below #[Value.ref b] s) (entryFrame m ([Value.ref b] : List Value).toArray 4) := by
  obtain ⟨hx, hb, hr, hml, hown, hts0, hX, hbl, hlocks, hgv⟩ := id C0
  have hts : ∀ w ∈ wsL_law, w.before #[Value.ref b] s = true := fun w h => hts0 w (wsL_law_in w h)
  have hA : ∀ q : Nat, s.heap.size ≤ q → (fun q : Nat => s.heap.size ≤ q) q := fun _ h => h
  have hbA : ¬ (fun q : Nat => s.heap.size ≤ q) b := Nat.not_le.mpr hbl
  have n1 : va_Nw xN1 s := va_Nw.of rfl (hts0 xN1 (by decide +kernel))
  have n2 : va_Nw xN2 s := va_Nw.of rfl (hts0 xN2 (by decide +kernel))
  have iX9 : ∀ w ∈ u_ws RX9 TX9 12, w ∈ wsL_law := fun w h => List.mem_append_left _ (List.mem_append_left _ (List.mem_append_left _ (List.mem_append_left _ (List.mem_append_left _ (List.mem_append_left _ (List.mem_append_left _ (List.mem_append_left _ (List.mem_append_left _ (List.mem_append_left _ (List.mem_append_left _ (List.mem_append_right _ h)))))))))))
  have iX10 : ∀ w ∈ u_ws RX10 TX10 50, w ∈ wsL_law := fun w h => List.mem_append_left _ (List.mem_append_left _ (List.mem_append_left _ (List.mem_append_left _ (List.mem_append_left _ (List.mem_append_left _ (List.mem_append_left _ (List.mem_append_left _ (List.mem_append_left _ (List.mem_append_left _ (List.mem_append_right _ h))))))))))
  have iX5 : ∀ w ∈ u_ws RX5 TX5 14, w ∈ wsL_law := fun w h => List.mem_append_left _ (List.mem_append_left _ (List.mem_append_left _ (List.mem_append_left _ (List.mem_append_left _ (List.mem_append_left _ (List.mem_append_left _ (List.mem_append_left _ (List.mem_append_left _ (List.mem_append_right _ h)))))))))
  have iX3 : ∀ w ∈ u_ws RX3 TX3 2, w ∈ wsL_law := fun w h => List.mem_append_left _ (List.mem_append_left _ (List.mem_append_left _ (List.mem_append_left _ (List.mem_append_left _ (List.mem_append_left _ (List.mem_append_left _ (List.mem_append_left _ (List.mem_append_right _ h))))))))
  have iX6 : ∀ w ∈ u_ws RX6 TX6 4, w ∈ wsL_law := fun w h => List.mem_append_left _ (List.mem_append_left _ (List.mem_append_left _ (List.mem_append_left _ (List.mem_append_left _ (List.mem_append_left _ (List.mem_append_left _ (List.mem_append_right _ h)))))))
  have iX2 : ∀ w ∈ u_ws RX2 TX2 4, w ∈ wsL_law := fun w h => List.mem_append_left _ (List.mem_append_left _ (List.mem_append_left _ (List.mem_append_left _ (List.mem_append_left _ (List.mem_append_left _ (List.mem_append_right _ h))))))
  have iX1 : ∀ w ∈ u_ws RX1 TX1 11, w ∈ wsL_law := fun w h => List.mem_append_left _ (List.mem_append_left _ (List.mem_append_left _ (List.mem_append_left _ (List.mem_append_left _ (List.mem_append_right _ h)))))
  have iX8 : ∀ w ∈ u_ws RX8 TX8 6, w ∈ wsL_law := fun w h => List.mem_append_left _ (List.mem_append_left _ (List.mem_append_left _ (List.mem_append_left _ (List.mem_append_right _ h))))
  have iX0 : ∀ w ∈ u_ws RX0 TX0 5, w ∈ wsL_law := fun w h => List.mem_append_left _ (List.mem_append_left _ (List.mem_append_left _ (List.mem_append_right _ h)))
  have iX7 : ∀ w ∈ u_ws RX7 TX7 2, w ∈ wsL_law := fun w h => List.mem_append_left _ (List.mem_append_left _ (List.mem_append_right _ h))
  have iX4 : ∀ w ∈ u_ws RX4 TX4 7, w ∈ wsL_law := fun w h => List.mem_append_left _ (List.mem_append_right _ h)
  obtain ⟨c0, iS0, hKn0⟩ := u_known (C := RX0) (T := TX0) (N := 5) (n := 5) hts iX0 (hts (.instantiable RX0 5) (by decide +kernel))
  obtain ⟨c1, iS1, hKn1⟩ := u_known (C := RX1) (T := TX1) (N := 11) (n := 11) hts iX1 (hts (.instantiable RX1 11) (by decide +kernel))
  obtain ⟨c2, iS2, hKn2⟩ := u_known (C := RX2) (T := TX2) (N := 4) (n := 4) hts iX2 (hts (.instantiable RX2 4) (by decide +kernel))
  obtain ⟨c3, iS3, hKn3⟩ := u_known (C := RX3) (T := TX3) (N := 2) (n := 2) hts iX3 (hts (.instantiable RX3 2) (by decide +kernel))
  obtain ⟨c4, iS4, hKn4⟩ := u_known (C := RX4) (T := TX4) (N := 7) (n := 7) hts iX4 (hts (.instantiable RX4 7) (by decide +kernel))
  obtain ⟨c5, iS5, hKn5⟩ := u_known (C := RX5) (T := TX5) (N := 14) (n := 14) hts iX5 (hts (.instantiable RX5 14) (by decide +kernel))
  obtain ⟨c6, iS6, hKn6⟩ := u_known (C := RX6) (T := TX6) (N := 4) (n := 4) hts iX6 (hts (.instantiable RX6 4) (by decide +kernel))
  obtain ⟨c7, iS7, hKn7⟩ := u_known (C := RX7) (T := TX7) (N := 2) (n := 2) hts iX7 (hts (.instantiable RX7 2) (by decide +kernel))
  obtain ⟨c8, iS8, hKn8⟩ := u_known (C := RX8) (T := TX8) (N := 6) (n := 6) hts iX8 (hts (.instantiable RX8 6) (by decide +kernel))
  obtain ⟨c9, iS9, hKn9⟩ := u_known (C := RX9) (T := TX9) (N := 12) (n := 12) hts iX9 (hts (.instantiable RX9 12) (by decide +kernel))
  obtain ⟨c10, iS10, hKn10⟩ := u_known (C := RX10) (T := TX10) (N := 50) (n := 50) hts iX10 (hts (.instantiable RX10 50) (by decide +kernel))
  obtain ⟨dC, dI, hKc⟩ : ∃ (dC : Nat → ClassId) (dI : Nat → Nat → Nat), ∀ (k : Nat) (q : vw_C), vwCl[k]? = some q → u_Kn s q.1 q.2.1 q.2.2 (dC k) (dI k) := by
    refine ⟨fun k => if k = 0 then c0 else if k = 1 then c1 else if k = 2 then c2 else if k = 3 then c3 else if k = 4 then c4 else if k = 5 then c5 else if k = 6 then c6 else if k = 7 then c7 else if k = 8 then c8 else if k = 9 then c9 else c10, fun k => if k = 0 then iS0 else if k = 1 then iS1 else if k = 2 then iS2 else if k = 3 then iS3 else if k = 4 then iS4 else if k = 5 then iS5 else if k = 6 then iS6 else if k = 7 then iS7 else if k = 8 then iS8 else if k = 9 then iS9 else iS10, ?_⟩
    intro k q hq
    match k, hq with
    | 0, hq => cases hq; exact hKn0
    | 1, hq => cases hq; exact hKn1
    | 2, hq => cases hq; exact hKn2
    | 3, hq => cases hq; exact hKn3
    | 4, hq => cases hq; exact hKn4
    | 5, hq => cases hq; exact hKn5
    | 6, hq => cases hq; exact hKn6
    | 7, hq => cases hq; exact hKn7
    | 8, hq => cases hq; exact hKn8
    | 9, hq => cases hq; exact hKn9
    | 10, hq => cases hq; exact hKn10
    | k + 11, hq => simp [vwCl] at hq
  obtain ⟨cI, aI1, aI2⟩ := x_arr (hts (.arrayClass .int) (by decide +kernel))
  obtain ⟨cJ, aJ1, aJ2⟩ := x_arr (hts (.arrayClass .long) (by decide +kernel))
  obtain ⟨cZ, aZ1, aZ2⟩ := x_arr (hts (.arrayClass .boolean) (by decide +kernel))
  have hK : va_K (dC, dI) vwCl (xT cI cJ cZ) s := ⟨hKc, fun k q h => by
    match k, h with
    | 0, h => cases h; exact ⟨aI1, aI2⟩
    | 1, h => cases h; exact ⟨aJ1, aJ2⟩
    | 2, h => cases h; exact ⟨aZ1, aZ2⟩
    | k + 3, h => simp [xT] at h⟩
  obtain ⟨H, hH⟩ : ∃ H, H = s.heap := ⟨_, rfl⟩
  have hS : va_S (fun q : Nat => s.heap.size ≤ q) s.heap H [] := by rw [hH]; exact va_S.rf
  have hP : va_P (dC, dI) vwCl [] H := fun k q h => by simp at h
  have hD : va_D (fun q : Nat => s.heap.size ≤ q) [] := ⟨fun i j p q h => by simp at h, fun k q h => by simp at h⟩
  have hl := lv_entry ([.ref b]) (n := 4) (Nat.le_of_ble_eq_true rfl)
  rw [lg_entry_eq]
  generalize (lg_sl ([.ref b]) ++ List.replicate (4 - (lg_sl ([.ref b])).length) Slot.unset).toArray = ls at hl ⊢
  have hl : lv_has ls 4 [(0, .ref b)] := hl
  rw [← hH]
  clear hH
  refine va_new (ci := 9) (fs := [.null, .null, .null, .null, .null, .null, .null, .null, .null, .null, .int 0, .int 0]) (C := RX9) (T := TX9) (N := 12) hx hb hts iX9 tyX9 tyX9_ok hown (hts (.classLink RL 7 RX9) (by decide +kernel)) (hts (.instantiable RX9 12) (by decide +kernel)) (hts (.initialized RX9) (by decide +kernel)) hK hP hD hS hA rfl (fun j hj => by rcases (show j = 0 ∨ j = 1 ∨ j = 2 ∨ j = 3 ∨ j = 4 ∨ j = 5 ∨ j = 6 ∨ j = 7 ∨ j = 8 ∨ j = 9 ∨ j = 10 ∨ j = 11 by omega) with rfl | rfl | rfl | rfl | rfl | rfl | rfl | rfl | rfl | rfl | rfl | rfl <;> rfl) (Nat.le_of_ble_eq_true rfl) (Nat.le_of_ble_eq_true rfl) dL_law_0 (fun h_p1 H hP hD hS => ?_)
  refine W.widen (k := 1) (n := 12) (Nat.le_of_ble_eq_true rfl) (Nat.le_of_ble_eq_true rfl) ?_
  have hP : va_P (dC, dI) vwCl [(h_p1, .inr (9, [.null, .null, .null, .null, .null, .null, .null, .null, .null, .null, .int 0, .int 0]))] H := hP
  have hD : va_D (fun q : Nat => s.heap.size ≤ q) [(h_p1, .inr (9, [.null, .null, .null, .null, .null, .null, .null, .null, .null, .null, .int 0, .int 0]))] := hD
  refine lv_dup hx hb dL_law_3 rfl ?_
  obtain ⟨hPc, hDc⟩ := x_sub (wc := [(h_p1, .inr (9, [.null, .null, .null, .null, .null, .null, .null, .null, .null, .null, .int 0, .int 0]))]) hP hD [0] (n := 1) rfl rfl (by decide +kernel)
  refine x_calln (c2 := 64) (s2 := 490347) hP hD hS hA [0] [] (n := 1) rfl rfl (by decide +kernel) rfl rfl (va_runI (As := []) (rest := [.ref h_p1]) ⟨hx, hb, hml, hown, hts⟩ (c_X9_init (l := l) (dC := dC) (dI := dI) (sz := H.size) (cI := cI) (cJ := cJ) (cZ := cZ) (h_p0 := h_p1)) (cwI 0 hts gL_law_X9_init rfl rfl rfl (hts (.initialized RX9) (by decide +kernel)) (hts (.methodLink RL 9 yX9_init) (by decide +kernel)) (hts (.instanceMethod yX9_init) (by decide +kernel)) rfl (by decide +kernel) ⟨Nat.le_of_ble_eq_true rfl, Nat.le_of_ble_eq_true rfl⟩) ⟨xPre_blind, xPre_at hK hPc hDc n1 n2⟩ rfl rfl hl.1 rfl (lv_room (Nat.le_of_ble_eq_true rfl)) dL_law_4 ⟨Nat.le_of_ble_eq_true rfl, Nat.le_of_ble_eq_true rfl⟩) (fun u H locs _ hP hD hS => ?_)
  obtain ⟨ad_p1, ad_p1_growth, ad_p1_growth_child, ad_p1_growth_nodes, ad_p1_hand, ad_p1_net, ad_p1_now, ad_p1_ofPlaces, ad_p1_ofSteps, ad_p1_past, ad_p1_reach, ad_p1_reach_all, ad_p1_reach_from, ad_p1_reach_to, ad_p1_told, ad_p1_trial⟩ := u
  have hP : va_P (dC, dI) vwCl (ini_X9_init cI cJ cZ h_p1 ad_p1 ad_p1_growth ad_p1_growth_child ad_p1_growth_nodes ad_p1_hand ad_p1_net ad_p1_now ad_p1_ofPlaces ad_p1_ofSteps ad_p1_past ad_p1_reach ad_p1_reach_all ad_p1_reach_from ad_p1_reach_to ad_p1_told ad_p1_trial) H := hP
  have hD : va_D (fun q : Nat => s.heap.size ≤ q) (ini_X9_init cI cJ cZ h_p1 ad_p1 ad_p1_growth ad_p1_growth_child ad_p1_growth_nodes ad_p1_hand ad_p1_net ad_p1_now ad_p1_ofPlaces ad_p1_ofSteps ad_p1_past ad_p1_reach ad_p1_reach_all ad_p1_reach_from ad_p1_reach_to ad_p1_told ad_p1_trial) := hD
  refine lv_astore_n (lv' := [(1, .ref h_p1), (0, .ref b)]) hx hb dL_law_7 rfl hl (by decide) rfl (fun ls hl => ?_)
  refine va_new (ci := 10) (fs := [.int 0, .int 0, .null, .null, .null, .null, .null, .null, .null, .null, .null, .null, .null, .null, .null, .int 0, .int 0, .int 0, .int 0, .null, .null, .int 0, .null, .null, .int 0, .int 0, .null, .null, .null, .null, .null, .null, .null, .int 0, .int 0, .int 0, .null, .null, .null, .null, .null, .null, .null, .int 0, .null, .int 0, .null, .int 0, .null, .null]) (C := RX10) (T := TX10) (N := 50) hx hb hts iX10 tyX10 tyX10_ok hown (hts (.classLink RL 10 RX10) (by decide +kernel)) (hts (.instantiable RX10 50) (by decide +kernel)) (hts (.initialized RX10) (by decide +kernel)) hK hP hD hS hA rfl (fun j hj => by rcases (show j = 0 ∨ j = 1 ∨ j = 2 ∨ j = 3 ∨ j = 4 ∨ j = 5 ∨ j = 6 ∨ j = 7 ∨ j = 8 ∨ j = 9 ∨ j = 10 ∨ j = 11 ∨ j = 12 ∨ j = 13 ∨ j = 14 ∨ j = 15 ∨ j = 16 ∨ j = 17 ∨ j = 18 ∨ j = 19 ∨ j = 20 ∨ j = 21 ∨ j = 22 ∨ j = 23 ∨ j = 24 ∨ j = 25 ∨ j = 26 ∨ j = 27 ∨ j = 28 ∨ j = 29 ∨ j = 30 ∨ j = 31 ∨ j = 32 ∨ j = 33 ∨ j = 34 ∨ j = 35 ∨ j = 36 ∨ j = 37 ∨ j = 38 ∨ j = 39 ∨ j = 40 ∨ j = 41 ∨ j = 42 ∨ j = 43 ∨ j = 44 ∨ j = 45 ∨ j = 46 ∨ j = 47 ∨ j = 48 ∨ j = 49 by omega) with rfl | rfl | rfl | rfl | rfl | rfl | rfl | rfl | rfl | rfl | rfl | rfl | rfl | rfl | rfl | rfl | rfl | rfl | rfl | rfl | rfl | rfl | rfl | rfl | rfl | rfl | rfl | rfl | rfl | rfl | rfl | rfl | rfl | rfl | rfl | rfl | rfl | rfl | rfl | rfl | rfl | rfl | rfl | rfl | rfl | rfl | rfl | rfl | rfl | rfl <;> rfl) (Nat.le_of_ble_eq_true rfl) (Nat.le_of_ble_eq_true rfl) dL_law_8 (fun h_p2 H hP hD hS => ?_)
  refine W.widen (k := 65) (n := 490397) (Nat.le_of_ble_eq_true rfl) (Nat.le_of_ble_eq_true rfl) ?_
  have hP : va_P (dC, dI) vwCl ((ini_X9_init cI cJ cZ h_p1 ad_p1 ad_p1_growth ad_p1_growth_child ad_p1_growth_nodes ad_p1_hand ad_p1_net ad_p1_now ad_p1_ofPlaces ad_p1_ofSteps ad_p1_past ad_p1_reach ad_p1_reach_all ad_p1_reach_from ad_p1_reach_to ad_p1_told ad_p1_trial) ++ [(h_p2, .inr (10, [.int 0, .int 0, .null, .null, .null, .null, .null, .null, .null, .null, .null, .null, .null, .null, .null, .int 0, .int 0, .int 0, .int 0, .null, .null, .int 0, .null, .null, .int 0, .int 0, .null, .null, .null, .null, .null, .null, .null, .int 0, .int 0, .int 0, .null, .null, .null, .null, .null, .null, .null, .int 0, .null, .int 0, .null, .int 0, .null, .null]))]) H := hP
  have hD : va_D (fun q : Nat => s.heap.size ≤ q) ((ini_X9_init cI cJ cZ h_p1 ad_p1 ad_p1_growth ad_p1_growth_child ad_p1_growth_nodes ad_p1_hand ad_p1_net ad_p1_now ad_p1_ofPlaces ad_p1_ofSteps ad_p1_past ad_p1_reach ad_p1_reach_all ad_p1_reach_from ad_p1_reach_to ad_p1_told ad_p1_trial) ++ [(h_p2, .inr (10, [.int 0, .int 0, .null, .null, .null, .null, .null, .null, .null, .null, .null, .null, .null, .null, .null, .int 0, .int 0, .int 0, .int 0, .null, .null, .int 0, .null, .null, .int 0, .int 0, .null, .null, .null, .null, .null, .null, .null, .int 0, .int 0, .int 0, .null, .null, .null, .null, .null, .null, .null, .int 0, .null, .int 0, .null, .int 0, .null, .null]))]) := hD
  refine lv_dup hx hb dL_law_11 rfl ?_
  obtain ⟨hPc, hDc⟩ := x_sub (wc := [(h_p2, .inr (10, [.int 0, .int 0, .null, .null, .null, .null, .null, .null, .null, .null, .null, .null, .null, .null, .null, .int 0, .int 0, .int 0, .int 0, .null, .null, .int 0, .null, .null, .int 0, .int 0, .null, .null, .null, .null, .null, .null, .null, .int 0, .int 0, .int 0, .null, .null, .null, .null, .null, .null, .null, .int 0, .null, .int 0, .null, .int 0, .null, .null]))]) hP hD [64] (n := 65) rfl rfl (by decide +kernel)
  refine x_calln (c2 := 100) (s2 := 914209) hP hD hS hA [64] [0, 1, 2, 3, 4, 5, 6, 7, 8, 9, 10, 11, 12, 13, 14, 15, 16, 17, 18, 19, 20, 21, 22, 23, 24, 25, 26, 27, 28, 29, 30, 31, 32, 33, 34, 35, 36, 37, 38, 39, 40, 41, 42, 43, 44, 45, 46, 47, 48, 49, 50, 51, 52, 53, 54, 55, 56, 57, 58, 59, 60, 61, 62, 63] (n := 65) rfl rfl (by decide +kernel) rfl rfl (va_runI (As := []) (rest := [.ref h_p2]) ⟨hx, hb, hml, hown, hts⟩ (c_X10_init (l := l) (dC := dC) (dI := dI) (sz := H.size) (cI := cI) (cJ := cJ) (cZ := cZ) (h_p0 := h_p2)) (cwI 0 hts gL_law_X10_init rfl rfl rfl (hts (.initialized RX10) (by decide +kernel)) (hts (.methodLink RL 12 yX10_init) (by decide +kernel)) (hts (.instanceMethod yX10_init) (by decide +kernel)) rfl (by decide +kernel) ⟨Nat.le_of_ble_eq_true rfl, Nat.le_of_ble_eq_true rfl⟩) ⟨xPre_blind, xPre_at hK hPc hDc n1 n2⟩ rfl rfl hl.1 rfl (lv_room (Nat.le_of_ble_eq_true rfl)) dL_law_12 ⟨Nat.le_of_ble_eq_true rfl, Nat.le_of_ble_eq_true rfl⟩) (fun u H locs _ hP hD hS => ?_)
  obtain ⟨ad_p2, rfl⟩ : ∃ z, z = u := ⟨_, rfl⟩
  refine lv_astore_n (lv' := [(2, .ref h_p2), (1, .ref h_p1), (0, .ref b)]) hx hb dL_law_15 rfl hl (by decide) rfl (fun ls hl => ?_)
  refine lv_iconst (v := 0) hx hb dL_law_16 (by decide) ?_
  refine lv_istore_n (lv' := [(3, .int 0), (2, .ref h_p2), (1, .ref h_p1), (0, .ref b)]) hx hb dL_law_17 rfl hl (by decide) rfl (fun ls hl => ?_)
  obtain ⟨hP, hD⟩ := x_sub (wc := (wld_L_law cI cJ cZ h_p1 h_p2 ad_p1 ad_p1_growth ad_p1_growth_child ad_p1_growth_nodes ad_p1_hand ad_p1_net ad_p1_now ad_p1_ofPlaces ad_p1_ofSteps ad_p1_past ad_p1_reach ad_p1_reach_all ad_p1_reach_from ad_p1_reach_to ad_p1_told ad_p1_trial ad_p2 (XI0 0) (XI0 1) (XI0 2) (XI0 3) (XI0 4) (XI0 5) (XI0 6) (XI0 7) (XI0 8) (XI0 9) (XI0 10) (XI0 11) (XI0 12) (XI0 13) (XI0 14) (XI0 15) (XI0 16) (XI0 17) (XI0 18) (XI0 19) (XI0 20) (XI0 21) (XI0 22) (XI0 23) (MI0 0) (MI0 1) (MI0 2) (MI0 3) (MI0 4) (MI0 5) (MI0 6) (MI0 7) (MI0 8) (MI0 9) (MI0 10) (MI0 11) (MI0 12) (MI0 13) (MI0 14) (A0 0) (L0 0) (A0 1) (A0 2) (A0 3) (A0 4) (A0 5) (A0 6) (A0 7) (A0 8) (A0 9) (A0 10) (A0 11) (A0 12) (A0 13) (A0 14) (A0 15) (A0 16) (A0 17) (A0 18) (A0 19) (A0 20) (L0 1) (L0 2) (A0 21) (A0 22) (L0 3) (A0 23) (A0 24) (A0 25) (L0 4) (A0 26) (A0 27) (A0 28) (A0 29) (A0 30) (A0 31) (A0 32) (L0 5) (A0 33) (A0 34) (A0 35) (A0 36) (A0 37) (L0 6) (A0 38) (A0 39) (L0 7) (A0 0) (A0 1) (A0 2) (A0 3) (A0 4) (A0 5) (A0 6) (A0 7) (A0 8) (A0 9) (A0 10) (A0 11) (A0 12) (A0 13) (A0 14) (A0 15) (A0 16) (A0 17) (A0 18) (A0 19) (A0 20) (A0 21) (A0 22) (A0 23) (A0 24) (A0 25) (A0 26) (L0 0) (A0 27) (A0 28) (A0 29) (A0 30) (A0 31) (A0 32) (A0 33))) hP hD [0, 1, 2, 3, 4, 5, 6, 7, 8, 9, 10, 11, 12, 13, 14, 15, 16, 17, 18, 19, 20, 21, 22, 23, 24, 25, 26, 27, 28, 29, 30, 31, 32, 33, 34, 35, 36, 37, 38, 39, 40, 41, 42, 43, 44, 45, 46, 47, 48, 49, 50, 51, 52, 53, 54, 55, 56, 57, 58, 59, 60, 61, 62, 63, 64, 65, 66, 67, 68, 69, 70, 71, 72, 73, 74, 75, 76, 77, 78, 79, 80, 81, 82, 83, 84, 85, 86, 87, 88, 89, 90, 91, 92, 93, 94, 95, 96, 97, 98, 99] (n := 100) rfl rfl (by decide +kernel)
  exact law_loop hx hb hml hown hts hK n1 n2 hX hbl hr hlocks hL h0 h1 h2 h3 h4 h5 h6 h7 h8 h9 h10 h11 h12 h13 h14 h15 h16 h17 h18 h19 h20 h21 h22 h23 h24 h25 h26 h27 h28 h29 h30 h31 h32 h33 h34 h35 h36 h37 h38 h39 h40 h41 h42 h43 h44 h45 h46 h47 h48 h49 h50 h51 h52 h53 h54 (L + 1) 0 0 (Nat.zero_le L) (by omega) nI_0.symm _ _ _ _ _ _ hI0 _ _ _ hP hD hS (lv_sub hl [3, 2, 1, 0] rfl)
