abbrev wld_X5_heedIfAsked (cI cJ cZ : ClassId) (h_p0 : Nat) (ad_p0 : Nat → Nat) (p0_places : Int32) (p0_steps : Int32) (p0_coloured : Int32) (p0_closed : Nat → Int32) (p0_heeds : Nat → Int32) (p0_needs : Nat → Int32) (p0_takes : Nat → Int32) : va_W := [(h_p0, .inr (5, [.ref (ad_p0 0), .ref (ad_p0 1), .ref (ad_p0 2), .ref (ad_p0 3), .ref (ad_p0 4), .ref (ad_p0 5), .ref (ad_p0 6), .ref (ad_p0 7), .ref (ad_p0 8), .ref (ad_p0 9), .ref (ad_p0 10), .int p0_places, .int p0_steps, .int p0_coloured])), ((ad_p0 5), .inl (cI, 256, .inl p0_closed)), ((ad_p0 10), .inl (cI, 16, .inl p0_heeds)), ((ad_p0 4), .inl (cI, 256, .inl p0_needs)), ((ad_p0 2), .inl (cI, 256, .inl p0_takes))]
abbrev q_X5_heedIfAsked (dC : Nat → ClassId) (dI : Nat → Nat → Nat) (cI cJ cZ : ClassId) (h_p0 : Nat) (ad_p0 : Nat → Nat) (p0_places : Int32) (p0_steps : Int32) (p0_coloured : Int32) (p0_closed : Nat → Int32) (p0_heeds : Nat → Int32) (p0_needs : Nat → Int32) (p0_takes : Nat → Int32) (post : (Nat → Int32) → Prop) (A : Nat → Prop) : Array Value → State → Outcome → State → Prop := va_Qv (fun (u : (Nat → Int32)) => post u) (fun (u : (Nat → Int32)) t => xPost (dC, dI) A (wld_X5_heedIfAsked cI cJ cZ h_p0 ad_p0 p0_places p0_steps p0_coloured p0_closed u p0_needs p0_takes) t) A
def w_X5_heedIfAsked (p0_closed : Nat → Int32) (p0_heeds : Nat → Int32) (p0_needs : Nat → Int32) (p0_takes : Nat → Int32) (a1 : Int32) (a2 : Int32) (post : (Nat → Int32) → Prop) : Prop :=
  w_X9_crossing a1 a2 (fun r1 =>
  vp_in a1 16 ∧
  vp_in r1 256 ∧
  (0 < (p0_takes r1.toNatClampNeg) →
    w_X5_withBit (p0_heeds a1.toNatClampNeg) a2 (1 : Int32) (fun r4 =>
    vp_in a1 16 ∧
    (post (upd p0_heeds a1.toNatClampNeg r4)))) ∧
  (¬ 0 < (p0_takes r1.toNatClampNeg) →
    vp_in r1 256 ∧
    (0 < (p0_needs r1.toNatClampNeg) →
      w_X5_withBit (p0_heeds a1.toNatClampNeg) a2 (1 : Int32) (fun r7 =>
      vp_in a1 16 ∧
      (post (upd p0_heeds a1.toNatClampNeg r7)))) ∧
    (¬ 0 < (p0_needs r1.toNatClampNeg) →
      vp_in r1 256 ∧
      (¬ (p0_closed r1.toNatClampNeg) = (1 : Int32) →
        w_X5_withBit (p0_heeds a1.toNatClampNeg) a2 (0 : Int32) (fun r10 =>
        vp_in a1 16 ∧
        (post (upd p0_heeds a1.toNatClampNeg r10)))) ∧
      ((p0_closed r1.toNatClampNeg) = (1 : Int32) →
        w_X5_withBit (p0_heeds a1.toNatClampNeg) a2 (1 : Int32) (fun r11 =>
        vp_in a1 16 ∧
        (post (upd p0_heeds a1.toNatClampNeg r11)))))))
set_option maxHeartbeats 4000000 in
set_option maxRecDepth 100000 in
theorem c_X5_heedIfAsked {l : Launch} {dC : Nat → ClassId} {dI : Nat → Nat → Nat} {sz : Nat} {cI cJ cZ : ClassId} {h_p0 : Nat} {ad_p0 : Nat → Nat} {p0_places : Int32} {p0_steps : Int32} {p0_coloured : Int32} {p0_closed : Nat → Int32} {p0_heeds : Nat → Int32} {p0_needs : Nat → Int32} {p0_takes : Nat → Int32} {a1 : Int32} {a2 : Int32} {post : (Nat → Int32) → Prop} (hw : w_X5_heedIfAsked p0_closed p0_heeds p0_needs p0_takes a1 a2 post) : Met l yX5_heedIfAsked wsX5_heedIfAsked ({ frames := 1, cells := 0, slots := 0, locals := 22 }) (va_Pc [.ref h_p0, .int a1, .int a2] (xPre (dC, dI) cI cJ cZ (wld_X5_heedIfAsked cI cJ cZ h_p0 ad_p0 p0_places p0_steps p0_coloured p0_closed p0_heeds p0_needs p0_takes) sz)) (q_X5_heedIfAsked dC dI cI cJ cZ h_p0 ad_p0 p0_places p0_steps p0_coloured p0_closed p0_heeds p0_needs p0_takes post (va_A (wld_X5_heedIfAsked cI cJ cZ h_p0 ad_p0 p0_places p0_steps p0_coloured p0_closed p0_heeds p0_needs p0_takes) sz)) 0 0 (va_A (wld_X5_heedIfAsked cI cJ cZ h_p0 ad_p0 p0_places p0_steps p0_coloured p0_closed p0_heeds p0_needs p0_takes) sz) := by
  refine x_met (cc := cX5_heedIfAsked) (maxL := 4) (ret := none) (own := RX5) (Qc := fun A => (q_X5_heedIfAsked dC dI cI cJ cZ h_p0 ad_p0 p0_places p0_steps p0_coloured p0_closed p0_heeds p0_needs p0_takes post A)) (by decide) rfl rfl (Nat.le_of_ble_eq_true rfl) ?_
  intro p e s m args below meth c A ls E0 hP hD hS hl
  obtain ⟨hx, hb, hr, hml, hown, hts, hlocks, hK, hA, n1, n2⟩ := id E0
  have iX5 : ∀ w ∈ u_ws RX5 TX5 14, w ∈ wsX5_heedIfAsked := fun w h => List.mem_cons_of_mem _ (List.mem_append_right _ h)
  have hS0 := hS
  have hl : lv_has ls 4 [(0, .ref h_p0), (1, .int a1), (2, .int a2)] := hl
  unfold w_X5_heedIfAsked at hw
  obtain ⟨H, hH⟩ : ∃ H, H = s.heap := ⟨_, rfl⟩
  have hS : va_S A s.heap H [] := by rw [hH]; exact hS
  have hP : va_P (dC, dI) vwCl (wld_X5_heedIfAsked cI cJ cZ h_p0 ad_p0 p0_places p0_steps p0_coloured p0_closed p0_heeds p0_needs p0_takes) H := by rw [hH]; exact hP
  suffices hG : W p l e ({ frames := 1, cells := 0, slots := 0, locals := 22 }) s m args below meth c H [] 0 0 (MQ below (q_X5_heedIfAsked dC dI cI cJ cZ h_p0 ad_p0 p0_places p0_steps p0_coloured p0_closed p0_heeds p0_needs p0_takes post A) args s 0 0 A) (F0 m 0 ls []) by rw [hH] at hG; exact hG
  clear hH
  refine lv_iload_n hx hb dX5_heedIfAsked_0 rfl (lv_at hl 1 rfl) ?_
  refine lv_iload_n hx hb dX5_heedIfAsked_1 rfl (lv_at hl 2 rfl) ?_
  obtain ⟨hPc, hDc⟩ := x_sub (wc := (wld_X9_crossing cI cJ cZ )) hP hD [] (n := 5) rfl rfl (by decide +kernel)
  refine x_calli (ws' := fun (u : Unit) => (wld_X5_heedIfAsked cI cJ cZ h_p0 ad_p0 p0_places p0_steps p0_coloured p0_closed p0_heeds p0_needs p0_takes)) hP hD hS hA [] [0, 1, 2, 3, 4] [0, 1, 2, 3, 4] (n := 5) (k := 0) rfl (fun _ => rfl) rfl (by decide +kernel) (fun _ => rfl) (va_runSN (As := [.int a1, .int a2]) (rest := []) ⟨hx, hb, hml, hown, hts⟩ (c_X9_crossing (l := l) (dC := dC) (dI := dI) (cI := cI) (cJ := cJ) (cZ := cZ) (sz := H.size) hw) ⟨va_cnB (host := RX9) 2 hts gX5_heedIfAsked_X9_crossing_n55 rfl rfl rfl n1 (hts (.initialized RX9) (by decide +kernel)) (by decide +kernel) ⟨Nat.le_of_ble_eq_true rfl, Nat.le_of_ble_eq_true rfl⟩, hts (.static yX9_crossing) (by decide +kernel), trivial⟩ ⟨xPre_blind, xPre_at hK hPc hDc n1 n2⟩ rfl rfl hl.1 rfl (lv_room (Nat.le_of_ble_eq_true rfl)) dX5_heedIfAsked_2 ⟨Nat.zero_le _, Nat.zero_le _⟩) (fun r1 u H locs hw hP hD hS => ?_)
  try dsimp only at hw
  have hP : va_P (dC, dI) vwCl (wld_X5_heedIfAsked cI cJ cZ h_p0 ad_p0 p0_places p0_steps p0_coloured p0_closed p0_heeds p0_needs p0_takes) H := hP
  have hD : va_D A (wld_X5_heedIfAsked cI cJ cZ h_p0 ad_p0 p0_places p0_steps p0_coloured p0_closed p0_heeds p0_needs p0_takes) := hD
  refine lv_istore_n (lv' := [(3, .int r1), (0, .ref h_p0), (1, .int a1), (2, .int a2)]) hx hb dX5_heedIfAsked_5 rfl hl (by decide) rfl (fun ls hl => ?_)
  refine lv_aload_n hx hb dX5_heedIfAsked_6 rfl (lv_at hl 1 rfl) ?_
  refine va_get (D := (dC, dI)) (ci := 5) (v := .ref (ad_p0 10)) (C := RX5) (T := TX5) (N := 14) hx hb hts iX5 hown hK hP 0 rfl rfl 10 (by decide) (hts (.fieldLink RX5 42 "NetHouse$Net" "heeds" "[I") (by decide +kernel)) (fun _ h9 => h9) rfl dX5_heedIfAsked_7 ?_
  refine lv_iload_n hx hb dX5_heedIfAsked_10 rfl (lv_at hl 2 rfl) ?_
  refine lv_aload_n hx hb dX5_heedIfAsked_11 rfl (lv_at hl 1 rfl) ?_
  refine va_get (D := (dC, dI)) (ci := 5) (v := .ref (ad_p0 10)) (C := RX5) (T := TX5) (N := 14) hx hb hts iX5 hown hK hP 0 rfl rfl 10 (by decide) (hts (.fieldLink RX5 42 "NetHouse$Net" "heeds" "[I") (by decide +kernel)) (fun _ h9 => h9) rfl dX5_heedIfAsked_12 ?_
  refine lv_iload_n hx hb dX5_heedIfAsked_15 rfl (lv_at hl 2 rfl) ?_
  refine va_iald hx hb hK hP 2 0 rfl rfl hw.1 dX5_heedIfAsked_16 ?_
  have hw := hw.2
  refine lv_iload_n hx hb dX5_heedIfAsked_17 rfl (lv_at hl 3 rfl) ?_
  refine lv_aload_n hx hb dX5_heedIfAsked_18 rfl (lv_at hl 1 rfl) ?_
  refine va_get (D := (dC, dI)) (ci := 5) (v := .ref (ad_p0 2)) (C := RX5) (T := TX5) (N := 14) hx hb hts iX5 hown hK hP 0 rfl rfl 2 (by decide) (hts (.fieldLink RX5 18 "NetHouse$Net" "takes" "[I") (by decide +kernel)) (fun _ h9 => h9) rfl dX5_heedIfAsked_19 ?_
  refine lv_iload_n hx hb dX5_heedIfAsked_22 rfl (lv_at hl 0 rfl) ?_
  refine va_iald hx hb hK hP 4 0 rfl rfl hw.1 dX5_heedIfAsked_23 ?_
  have hw := hw.2
  refine lv_if_gt (tgt := 46) hx hb dX5_heedIfAsked_24 (by decide) (fun c2 => ?_) (fun c3 => ?_)
  · have hw := hw.1 c2
    refine lv_iconst (v := 1) hx hb dX5_heedIfAsked_46 (by decide) ?_
    refine lv_goto (tgt := 51) hx hb dX5_heedIfAsked_47 (by decide) ?_
    obtain ⟨hPc, hDc⟩ := x_sub (wc := (wld_X5_withBit cI cJ cZ )) hP hD [] (n := 5) rfl rfl (by decide +kernel)
    refine x_calli (ws' := fun (u : Unit) => (wld_X5_heedIfAsked cI cJ cZ h_p0 ad_p0 p0_places p0_steps p0_coloured p0_closed p0_heeds p0_needs p0_takes)) hP hD hS hA [] [0, 1, 2, 3, 4] [0, 1, 2, 3, 4] (n := 5) (k := 0) rfl (fun _ => rfl) rfl (by decide +kernel) (fun _ => rfl) (va_runS (As := [.int (p0_heeds a1.toNatClampNeg), .int a2, .int (1 : Int32)]) (rest := [.int a1, .ref (ad_p0 10)]) ⟨hx, hb, hml, hown, hts⟩ (c_X5_withBit (l := l) (dC := dC) (dI := dI) (cI := cI) (cJ := cJ) (cZ := cZ) (sz := H.size) hw) (va_cwS 3 hts gX5_heedIfAsked_X5_withBit rfl rfl rfl (by decide +kernel) ⟨Nat.le_of_ble_eq_true rfl, Nat.le_of_ble_eq_true rfl⟩) ⟨xPre_blind, xPre_at hK hPc hDc n1 n2⟩ rfl rfl hl.1 rfl (lv_room (Nat.le_of_ble_eq_true rfl)) dX5_heedIfAsked_51 ⟨Nat.zero_le _, Nat.zero_le _⟩) (fun r4 u H locs hw hP hD hS => ?_)
    try dsimp only at hw
    have hP : va_P (dC, dI) vwCl (wld_X5_heedIfAsked cI cJ cZ h_p0 ad_p0 p0_places p0_steps p0_coloured p0_closed p0_heeds p0_needs p0_takes) H := hP
    have hD : va_D A (wld_X5_heedIfAsked cI cJ cZ h_p0 ad_p0 p0_places p0_steps p0_coloured p0_closed p0_heeds p0_needs p0_takes) := hD
    refine va_iast hx hb hK hP hD hS 2 0 rfl rfl hw.1 dX5_heedIfAsked_54 (fun H locs hP hD hS => ?_)
    have hw := hw.2
    have hP : va_P (dC, dI) vwCl (wld_X5_heedIfAsked cI cJ cZ h_p0 ad_p0 p0_places p0_steps p0_coloured p0_closed (upd p0_heeds a1.toNatClampNeg r4) p0_needs p0_takes) H := hP
    have hD : va_D A (wld_X5_heedIfAsked cI cJ cZ h_p0 ad_p0 p0_places p0_steps p0_coloured p0_closed (upd p0_heeds a1.toNatClampNeg r4) p0_needs p0_takes) := hD
    exact x_vret (w1 := fun (u : (Nat → Int32)) => (wld_X5_heedIfAsked cI cJ cZ h_p0 ad_p0 p0_places p0_steps p0_coloured p0_closed u p0_needs p0_takes)) hx hb hr hlocks ((upd p0_heeds a1.toNatClampNeg r4)) hw hP hD hS dX5_heedIfAsked_55
  · have hw := hw.2 c3
    refine lv_aload_n hx hb dX5_heedIfAsked_27 rfl (lv_at hl 1 rfl) ?_
    refine va_get (D := (dC, dI)) (ci := 5) (v := .ref (ad_p0 4)) (C := RX5) (T := TX5) (N := 14) hx hb hts iX5 hown hK hP 0 rfl rfl 4 (by decide) (hts (.fieldLink RX5 24 "NetHouse$Net" "needs" "[I") (by decide +kernel)) (fun _ h9 => h9) rfl dX5_heedIfAsked_28 ?_
    refine lv_iload_n hx hb dX5_heedIfAsked_31 rfl (lv_at hl 0 rfl) ?_
    refine va_iald hx hb hK hP 3 0 rfl rfl hw.1 dX5_heedIfAsked_32 ?_
    have hw := hw.2
    refine lv_if_gt (tgt := 46) hx hb dX5_heedIfAsked_33 (by decide) (fun c5 => ?_) (fun c6 => ?_)
    · have hw := hw.1 c5
      refine lv_iconst (v := 1) hx hb dX5_heedIfAsked_46 (by decide) ?_
      refine lv_goto (tgt := 51) hx hb dX5_heedIfAsked_47 (by decide) ?_
      obtain ⟨hPc, hDc⟩ := x_sub (wc := (wld_X5_withBit cI cJ cZ )) hP hD [] (n := 5) rfl rfl (by decide +kernel)
      refine x_calli (ws' := fun (u : Unit) => (wld_X5_heedIfAsked cI cJ cZ h_p0 ad_p0 p0_places p0_steps p0_coloured p0_closed p0_heeds p0_needs p0_takes)) hP hD hS hA [] [0, 1, 2, 3, 4] [0, 1, 2, 3, 4] (n := 5) (k := 0) rfl (fun _ => rfl) rfl (by decide +kernel) (fun _ => rfl) (va_runS (As := [.int (p0_heeds a1.toNatClampNeg), .int a2, .int (1 : Int32)]) (rest := [.int a1, .ref (ad_p0 10)]) ⟨hx, hb, hml, hown, hts⟩ (c_X5_withBit (l := l) (dC := dC) (dI := dI) (cI := cI) (cJ := cJ) (cZ := cZ) (sz := H.size) hw) (va_cwS 3 hts gX5_heedIfAsked_X5_withBit rfl rfl rfl (by decide +kernel) ⟨Nat.le_of_ble_eq_true rfl, Nat.le_of_ble_eq_true rfl⟩) ⟨xPre_blind, xPre_at hK hPc hDc n1 n2⟩ rfl rfl hl.1 rfl (lv_room (Nat.le_of_ble_eq_true rfl)) dX5_heedIfAsked_51 ⟨Nat.zero_le _, Nat.zero_le _⟩) (fun r7 u H locs hw hP hD hS => ?_)
      try dsimp only at hw
      have hP : va_P (dC, dI) vwCl (wld_X5_heedIfAsked cI cJ cZ h_p0 ad_p0 p0_places p0_steps p0_coloured p0_closed p0_heeds p0_needs p0_takes) H := hP
      have hD : va_D A (wld_X5_heedIfAsked cI cJ cZ h_p0 ad_p0 p0_places p0_steps p0_coloured p0_closed p0_heeds p0_needs p0_takes) := hD
      refine va_iast hx hb hK hP hD hS 2 0 rfl rfl hw.1 dX5_heedIfAsked_54 (fun H locs hP hD hS => ?_)
      have hw := hw.2
      have hP : va_P (dC, dI) vwCl (wld_X5_heedIfAsked cI cJ cZ h_p0 ad_p0 p0_places p0_steps p0_coloured p0_closed (upd p0_heeds a1.toNatClampNeg r7) p0_needs p0_takes) H := hP
      have hD : va_D A (wld_X5_heedIfAsked cI cJ cZ h_p0 ad_p0 p0_places p0_steps p0_coloured p0_closed (upd p0_heeds a1.toNatClampNeg r7) p0_needs p0_takes) := hD
      exact x_vret (w1 := fun (u : (Nat → Int32)) => (wld_X5_heedIfAsked cI cJ cZ h_p0 ad_p0 p0_places p0_steps p0_coloured p0_closed u p0_needs p0_takes)) hx hb hr hlocks ((upd p0_heeds a1.toNatClampNeg r7)) hw hP hD hS dX5_heedIfAsked_55
    · have hw := hw.2 c6
      refine lv_aload_n hx hb dX5_heedIfAsked_36 rfl (lv_at hl 1 rfl) ?_
      refine va_get (D := (dC, dI)) (ci := 5) (v := .ref (ad_p0 5)) (C := RX5) (T := TX5) (N := 14) hx hb hts iX5 hown hK hP 0 rfl rfl 5 (by decide) (hts (.fieldLink RX5 27 "NetHouse$Net" "closed" "[I") (by decide +kernel)) (fun _ h9 => h9) rfl dX5_heedIfAsked_37 ?_
      refine lv_iload_n hx hb dX5_heedIfAsked_40 rfl (lv_at hl 0 rfl) ?_
      refine va_iald hx hb hK hP 1 0 rfl rfl hw.1 dX5_heedIfAsked_41 ?_
      have hw := hw.2
      refine lv_iconst (v := 1) hx hb dX5_heedIfAsked_42 (by decide) ?_
      refine lv_icmp_ne (tgt := 50) hx hb dX5_heedIfAsked_43 (by decide) (fun c8 => ?_) (fun c9 => ?_)
      · have hw := hw.1 c8
        refine lv_iconst (v := 0) hx hb dX5_heedIfAsked_50 (by decide) ?_
        obtain ⟨hPc, hDc⟩ := x_sub (wc := (wld_X5_withBit cI cJ cZ )) hP hD [] (n := 5) rfl rfl (by decide +kernel)
        refine x_calli (ws' := fun (u : Unit) => (wld_X5_heedIfAsked cI cJ cZ h_p0 ad_p0 p0_places p0_steps p0_coloured p0_closed p0_heeds p0_needs p0_takes)) hP hD hS hA [] [0, 1, 2, 3, 4] [0, 1, 2, 3, 4] (n := 5) (k := 0) rfl (fun _ => rfl) rfl (by decide +kernel) (fun _ => rfl) (va_runS (As := [.int (p0_heeds a1.toNatClampNeg), .int a2, .int (0 : Int32)]) (rest := [.int a1, .ref (ad_p0 10)]) ⟨hx, hb, hml, hown, hts⟩ (c_X5_withBit (l := l) (dC := dC) (dI := dI) (cI := cI) (cJ := cJ) (cZ := cZ) (sz := H.size) hw) (va_cwS 3 hts gX5_heedIfAsked_X5_withBit rfl rfl rfl (by decide +kernel) ⟨Nat.le_of_ble_eq_true rfl, Nat.le_of_ble_eq_true rfl⟩) ⟨xPre_blind, xPre_at hK hPc hDc n1 n2⟩ rfl rfl hl.1 rfl (lv_room (Nat.le_of_ble_eq_true rfl)) dX5_heedIfAsked_51 ⟨Nat.zero_le _, Nat.zero_le _⟩) (fun r10 u H locs hw hP hD hS => ?_)
        try dsimp only at hw
        have hP : va_P (dC, dI) vwCl (wld_X5_heedIfAsked cI cJ cZ h_p0 ad_p0 p0_places p0_steps p0_coloured p0_closed p0_heeds p0_needs p0_takes) H := hP
        have hD : va_D A (wld_X5_heedIfAsked cI cJ cZ h_p0 ad_p0 p0_places p0_steps p0_coloured p0_closed p0_heeds p0_needs p0_takes) := hD
        refine va_iast hx hb hK hP hD hS 2 0 rfl rfl hw.1 dX5_heedIfAsked_54 (fun H locs hP hD hS => ?_)
        have hw := hw.2
        have hP : va_P (dC, dI) vwCl (wld_X5_heedIfAsked cI cJ cZ h_p0 ad_p0 p0_places p0_steps p0_coloured p0_closed (upd p0_heeds a1.toNatClampNeg r10) p0_needs p0_takes) H := hP
        have hD : va_D A (wld_X5_heedIfAsked cI cJ cZ h_p0 ad_p0 p0_places p0_steps p0_coloured p0_closed (upd p0_heeds a1.toNatClampNeg r10) p0_needs p0_takes) := hD
        exact x_vret (w1 := fun (u : (Nat → Int32)) => (wld_X5_heedIfAsked cI cJ cZ h_p0 ad_p0 p0_places p0_steps p0_coloured p0_closed u p0_needs p0_takes)) hx hb hr hlocks ((upd p0_heeds a1.toNatClampNeg r10)) hw hP hD hS dX5_heedIfAsked_55
      · have hw := hw.2 c9
        refine lv_iconst (v := 1) hx hb dX5_heedIfAsked_46 (by decide) ?_
        refine lv_goto (tgt := 51) hx hb dX5_heedIfAsked_47 (by decide) ?_
        obtain ⟨hPc, hDc⟩ := x_sub (wc := (wld_X5_withBit cI cJ cZ )) hP hD [] (n := 5) rfl rfl (by decide +kernel)
        refine x_calli (ws' := fun (u : Unit) => (wld_X5_heedIfAsked cI cJ cZ h_p0 ad_p0 p0_places p0_steps p0_coloured p0_closed p0_heeds p0_needs p0_takes)) hP hD hS hA [] [0, 1, 2, 3, 4] [0, 1, 2, 3, 4] (n := 5) (k := 0) rfl (fun _ => rfl) rfl (by decide +kernel) (fun _ => rfl) (va_runS (As := [.int (p0_heeds a1.toNatClampNeg), .int a2, .int (1 : Int32)]) (rest := [.int a1, .ref (ad_p0 10)]) ⟨hx, hb, hml, hown, hts⟩ (c_X5_withBit (l := l) (dC := dC) (dI := dI) (cI := cI) (cJ := cJ) (cZ := cZ) (sz := H.size) hw) (va_cwS 3 hts gX5_heedIfAsked_X5_withBit rfl rfl rfl (by decide +kernel) ⟨Nat.le_of_ble_eq_true rfl, Nat.le_of_ble_eq_true rfl⟩) ⟨xPre_blind, xPre_at hK hPc hDc n1 n2⟩ rfl rfl hl.1 rfl (lv_room (Nat.le_of_ble_eq_true rfl)) dX5_heedIfAsked_51 ⟨Nat.zero_le _, Nat.zero_le _⟩) (fun r11 u H locs hw hP hD hS => ?_)
        try dsimp only at hw
        have hP : va_P (dC, dI) vwCl (wld_X5_heedIfAsked cI cJ cZ h_p0 ad_p0 p0_places p0_steps p0_coloured p0_closed p0_heeds p0_needs p0_takes) H := hP
        have hD : va_D A (wld_X5_heedIfAsked cI cJ cZ h_p0 ad_p0 p0_places p0_steps p0_coloured p0_closed p0_heeds p0_needs p0_takes) := hD
        refine va_iast hx hb hK hP hD hS 2 0 rfl rfl hw.1 dX5_heedIfAsked_54 (fun H locs hP hD hS => ?_)
        have hw := hw.2
        have hP : va_P (dC, dI) vwCl (wld_X5_heedIfAsked cI cJ cZ h_p0 ad_p0 p0_places p0_steps p0_coloured p0_closed (upd p0_heeds a1.toNatClampNeg r11) p0_needs p0_takes) H := hP
        have hD : va_D A (wld_X5_heedIfAsked cI cJ cZ h_p0 ad_p0 p0_places p0_steps p0_coloured p0_closed (upd p0_heeds a1.toNatClampNeg r11) p0_needs p0_takes) := hD
        exact x_vret (w1 := fun (u : (Nat → Int32)) => (wld_X5_heedIfAsked cI cJ cZ h_p0 ad_p0 p0_places p0_steps p0_coloured p0_closed u p0_needs p0_takes)) hx hb hr hlocks ((upd p0_heeds a1.toNatClampNeg r11)) hw hP hD hS dX5_heedIfAsked_55
abbrev wld_X5_connect (cI cJ cZ : ClassId) (h_p0 : Nat) (ad_p0 : Nat → Nat) (p0_places : Int32) (p0_steps : Int32) (p0_coloured : Int32) (p0_closed : Nat → Int32) (p0_heeds : Nat → Int32) (p0_needs : Nat → Int32) (p0_puts : Nat → Int32) (p0_putsInto : Nat → Int32) (p0_takes : Nat → Int32) (p0_takesFrom : Nat → Int32) : va_W := [(h_p0, .inr (5, [.ref (ad_p0 0), .ref (ad_p0 1), .ref (ad_p0 2), .ref (ad_p0 3), .ref (ad_p0 4), .ref (ad_p0 5), .ref (ad_p0 6), .ref (ad_p0 7), .ref (ad_p0 8), .ref (ad_p0 9), .ref (ad_p0 10), .int p0_places, .int p0_steps, .int p0_coloured])), ((ad_p0 5), .inl (cI, 256, .inl p0_closed)), ((ad_p0 10), .inl (cI, 16, .inl p0_heeds)), ((ad_p0 4), .inl (cI, 256, .inl p0_needs)), ((ad_p0 3), .inl (cI, 256, .inl p0_puts)), ((ad_p0 9), .inl (cI, 16, .inl p0_putsInto)), ((ad_p0 2), .inl (cI, 256, .inl p0_takes)), ((ad_p0 8), .inl (cI, 16, .inl p0_takesFrom))]
abbrev q_X5_connect (dC : Nat → ClassId) (dI : Nat → Nat → Nat) (cI cJ cZ : ClassId) (h_p0 : Nat) (ad_p0 : Nat → Nat) (p0_places : Int32) (p0_steps : Int32) (p0_coloured : Int32) (p0_closed : Nat → Int32) (p0_heeds : Nat → Int32) (p0_needs : Nat → Int32) (p0_puts : Nat → Int32) (p0_putsInto : Nat → Int32) (p0_takes : Nat → Int32) (p0_takesFrom : Nat → Int32) (post : (Nat → Int32) → (Nat → Int32) → (Nat → Int32) → (Nat → Int32) → (Nat → Int32) → Prop) (A : Nat → Prop) : Array Value → State → Outcome → State → Prop := va_Qv (fun (u : (Nat → Int32) × (Nat → Int32) × (Nat → Int32) × (Nat → Int32) × (Nat → Int32)) => post (u.1) (u.2.1) (u.2.2.1) (u.2.2.2.1) (u.2.2.2.2)) (fun (u : (Nat → Int32) × (Nat → Int32) × (Nat → Int32) × (Nat → Int32) × (Nat → Int32)) t => xPost (dC, dI) A (wld_X5_connect cI cJ cZ h_p0 ad_p0 p0_places p0_steps p0_coloured p0_closed (u.1) p0_needs (u.2.1) (u.2.2.1) (u.2.2.2.1) (u.2.2.2.2)) t) A
def w_X5_connect (p0_closed : Nat → Int32) (p0_heeds : Nat → Int32) (p0_needs : Nat → Int32) (p0_puts : Nat → Int32) (p0_putsInto : Nat → Int32) (p0_takes : Nat → Int32) (p0_takesFrom : Nat → Int32) (a1 : Int32) (a2 : Int32) (a3 : Int32) (a4 : Int32) (post : (Nat → Int32) → (Nat → Int32) → (Nat → Int32) → (Nat → Int32) → (Nat → Int32) → Prop) : Prop :=
  w_X9_crossing a1 a2 (fun r1 =>
  vp_in r1 256 ∧
  w_X9_crossing a1 a2 (fun r2 =>
  vp_in r2 256 ∧
  vp_in a1 16 ∧
  (a3 ≤ 0 →
    w_X5_withBit (p0_takesFrom a1.toNatClampNeg) a2 (0 : Int32) (fun r5 =>
    vp_in a1 16 ∧
    vp_in a1 16 ∧
    (a4 ≤ 0 →
      w_X5_withBit (p0_putsInto a1.toNatClampNeg) a2 (0 : Int32) (fun r8 =>
      vp_in a1 16 ∧
      w_X5_heedIfAsked p0_closed p0_heeds p0_needs (upd p0_takes r1.toNatClampNeg a3) a1 a2 (fun y9 =>
      (post y9 (upd p0_puts r2.toNatClampNeg a4) (upd p0_putsInto a1.toNatClampNeg r8) (upd p0_takes r1.toNatClampNeg a3) (upd p0_takesFrom a1.toNatClampNeg r5))))) ∧
    (¬ a4 ≤ 0 →
      w_X5_withBit (p0_putsInto a1.toNatClampNeg) a2 (1 : Int32) (fun r10 =>
      vp_in a1 16 ∧
      w_X5_heedIfAsked p0_closed p0_heeds p0_needs (upd p0_takes r1.toNatClampNeg a3) a1 a2 (fun y11 =>
      (post y11 (upd p0_puts r2.toNatClampNeg a4) (upd p0_putsInto a1.toNatClampNeg r10) (upd p0_takes r1.toNatClampNeg a3) (upd p0_takesFrom a1.toNatClampNeg r5))))))) ∧
  (¬ a3 ≤ 0 →
    w_X5_withBit (p0_takesFrom a1.toNatClampNeg) a2 (1 : Int32) (fun r12 =>
    vp_in a1 16 ∧
    vp_in a1 16 ∧
    (a4 ≤ 0 →
      w_X5_withBit (p0_putsInto a1.toNatClampNeg) a2 (0 : Int32) (fun r15 =>
      vp_in a1 16 ∧
      w_X5_heedIfAsked p0_closed p0_heeds p0_needs (upd p0_takes r1.toNatClampNeg a3) a1 a2 (fun y16 =>
      (post y16 (upd p0_puts r2.toNatClampNeg a4) (upd p0_putsInto a1.toNatClampNeg r15) (upd p0_takes r1.toNatClampNeg a3) (upd p0_takesFrom a1.toNatClampNeg r12))))) ∧
    (¬ a4 ≤ 0 →
      w_X5_withBit (p0_putsInto a1.toNatClampNeg) a2 (1 : Int32) (fun r17 =>
      vp_in a1 16 ∧
      w_X5_heedIfAsked p0_closed p0_heeds p0_needs (upd p0_takes r1.toNatClampNeg a3) a1 a2 (fun y18 =>
      (post y18 (upd p0_puts r2.toNatClampNeg a4) (upd p0_putsInto a1.toNatClampNeg r17) (upd p0_takes r1.toNatClampNeg a3) (upd p0_takesFrom a1.toNatClampNeg r12)))))))))
set_option maxHeartbeats 4000000 in
set_option maxRecDepth 100000 in
theorem c_X5_connect {l : Launch} {dC : Nat → ClassId} {dI : Nat → Nat → Nat} {sz : Nat} {cI cJ cZ : ClassId} {h_p0 : Nat} {ad_p0 : Nat → Nat} {p0_places : Int32} {p0_steps : Int32} {p0_coloured : Int32} {p0_closed : Nat → Int32} {p0_heeds : Nat → Int32} {p0_needs : Nat → Int32} {p0_puts : Nat → Int32} {p0_putsInto : Nat → Int32} {p0_takes : Nat → Int32} {p0_takesFrom : Nat → Int32} {a1 : Int32} {a2 : Int32} {a3 : Int32} {a4 : Int32} {post : (Nat → Int32) → (Nat → Int32) → (Nat → Int32) → (Nat → Int32) → (Nat → Int32) → Prop} (hw : w_X5_connect p0_closed p0_heeds p0_needs p0_puts p0_putsInto p0_takes p0_takesFrom a1 a2 a3 a4 post) : Met l yX5_connect wsX5_connect ({ frames := 2, cells := 0, slots := 0, locals := 45 }) (va_Pc [.ref h_p0, .int a1, .int a2, .int a3, .int a4] (xPre (dC, dI) cI cJ cZ (wld_X5_connect cI cJ cZ h_p0 ad_p0 p0_places p0_steps p0_coloured p0_closed p0_heeds p0_needs p0_puts p0_putsInto p0_takes p0_takesFrom) sz)) (q_X5_connect dC dI cI cJ cZ h_p0 ad_p0 p0_places p0_steps p0_coloured p0_closed p0_heeds p0_needs p0_puts p0_putsInto p0_takes p0_takesFrom post (va_A (wld_X5_connect cI cJ cZ h_p0 ad_p0 p0_places p0_steps p0_coloured p0_closed p0_heeds p0_needs p0_puts p0_putsInto p0_takes p0_takesFrom) sz)) 0 0 (va_A (wld_X5_connect cI cJ cZ h_p0 ad_p0 p0_places p0_steps p0_coloured p0_closed p0_heeds p0_needs p0_puts p0_putsInto p0_takes p0_takesFrom) sz) := by
  refine x_met (cc := cX5_connect) (maxL := 5) (ret := none) (own := RX5) (Qc := fun A => (q_X5_connect dC dI cI cJ cZ h_p0 ad_p0 p0_places p0_steps p0_coloured p0_closed p0_heeds p0_needs p0_puts p0_putsInto p0_takes p0_takesFrom post A)) (by decide) rfl rfl (Nat.le_of_ble_eq_true rfl) ?_
  intro p e s m args below meth c A ls E0 hP hD hS hl
  obtain ⟨hx, hb, hr, hml, hown, hts, hlocks, hK, hA, n1, n2⟩ := id E0
  have iX5 : ∀ w ∈ u_ws RX5 TX5 14, w ∈ wsX5_connect := fun w h => List.mem_cons_of_mem _ (List.mem_append_right _ h)
  have hS0 := hS
  have hl : lv_has ls 5 [(0, .ref h_p0), (1, .int a1), (2, .int a2), (3, .int a3), (4, .int a4)] := hl
  unfold w_X5_connect at hw
  obtain ⟨H, hH⟩ : ∃ H, H = s.heap := ⟨_, rfl⟩
  have hS : va_S A s.heap H [] := by rw [hH]; exact hS
  have hP : va_P (dC, dI) vwCl (wld_X5_connect cI cJ cZ h_p0 ad_p0 p0_places p0_steps p0_coloured p0_closed p0_heeds p0_needs p0_puts p0_putsInto p0_takes p0_takesFrom) H := by rw [hH]; exact hP
  suffices hG : W p l e ({ frames := 2, cells := 0, slots := 0, locals := 45 }) s m args below meth c H [] 0 0 (MQ below (q_X5_connect dC dI cI cJ cZ h_p0 ad_p0 p0_places p0_steps p0_coloured p0_closed p0_heeds p0_needs p0_puts p0_putsInto p0_takes p0_takesFrom post A) args s 0 0 A) (F0 m 0 ls []) by rw [hH] at hG; exact hG
  clear hH
  refine lv_aload_n hx hb dX5_connect_0 rfl (lv_at hl 0 rfl) ?_
  refine va_get (D := (dC, dI)) (ci := 5) (v := .ref (ad_p0 2)) (C := RX5) (T := TX5) (N := 14) hx hb hts iX5 hown hK hP 0 rfl rfl 2 (by decide) (hts (.fieldLink RX5 18 "NetHouse$Net" "takes" "[I") (by decide +kernel)) (fun _ h9 => h9) rfl dX5_connect_1 ?_
  refine lv_iload_n hx hb dX5_connect_4 rfl (lv_at hl 1 rfl) ?_
  refine lv_iload_n hx hb dX5_connect_5 rfl (lv_at hl 2 rfl) ?_
  obtain ⟨hPc, hDc⟩ := x_sub (wc := (wld_X9_crossing cI cJ cZ )) hP hD [] (n := 8) rfl rfl (by decide +kernel)
  refine x_calli (ws' := fun (u : Unit) => (wld_X5_connect cI cJ cZ h_p0 ad_p0 p0_places p0_steps p0_coloured p0_closed p0_heeds p0_needs p0_puts p0_putsInto p0_takes p0_takesFrom)) hP hD hS hA [] [0, 1, 2, 3, 4, 5, 6, 7] [0, 1, 2, 3, 4, 5, 6, 7] (n := 8) (k := 0) rfl (fun _ => rfl) rfl (by decide +kernel) (fun _ => rfl) (va_runSN (As := [.int a1, .int a2]) (rest := [.ref (ad_p0 2)]) ⟨hx, hb, hml, hown, hts⟩ (c_X9_crossing (l := l) (dC := dC) (dI := dI) (cI := cI) (cJ := cJ) (cZ := cZ) (sz := H.size) hw) ⟨va_cnB (host := RX9) 2 hts gX5_connect_X9_crossing_n55 rfl rfl rfl n1 (hts (.initialized RX9) (by decide +kernel)) (by decide +kernel) ⟨Nat.le_of_ble_eq_true rfl, Nat.le_of_ble_eq_true rfl⟩, hts (.static yX9_crossing) (by decide +kernel), trivial⟩ ⟨xPre_blind, xPre_at hK hPc hDc n1 n2⟩ rfl rfl hl.1 rfl (lv_room (Nat.le_of_ble_eq_true rfl)) dX5_connect_6 ⟨Nat.zero_le _, Nat.zero_le _⟩) (fun r1 u H locs hw hP hD hS => ?_)
  try dsimp only at hw
  have hP : va_P (dC, dI) vwCl (wld_X5_connect cI cJ cZ h_p0 ad_p0 p0_places p0_steps p0_coloured p0_closed p0_heeds p0_needs p0_puts p0_putsInto p0_takes p0_takesFrom) H := hP
  have hD : va_D A (wld_X5_connect cI cJ cZ h_p0 ad_p0 p0_places p0_steps p0_coloured p0_closed p0_heeds p0_needs p0_puts p0_putsInto p0_takes p0_takesFrom) := hD
  refine lv_iload_n hx hb dX5_connect_9 rfl (lv_at hl 3 rfl) ?_
  refine va_iast hx hb hK hP hD hS 6 0 rfl rfl hw.1 dX5_connect_10 (fun H locs hP hD hS => ?_)
  have hw := hw.2
  have hP : va_P (dC, dI) vwCl (wld_X5_connect cI cJ cZ h_p0 ad_p0 p0_places p0_steps p0_coloured p0_closed p0_heeds p0_needs p0_puts p0_putsInto (upd p0_takes r1.toNatClampNeg a3) p0_takesFrom) H := hP
  have hD : va_D A (wld_X5_connect cI cJ cZ h_p0 ad_p0 p0_places p0_steps p0_coloured p0_closed p0_heeds p0_needs p0_puts p0_putsInto (upd p0_takes r1.toNatClampNeg a3) p0_takesFrom) := hD
  refine lv_aload_n hx hb dX5_connect_11 rfl (lv_at hl 0 rfl) ?_
  refine va_get (D := (dC, dI)) (ci := 5) (v := .ref (ad_p0 3)) (C := RX5) (T := TX5) (N := 14) hx hb hts iX5 hown hK hP 0 rfl rfl 3 (by decide) (hts (.fieldLink RX5 21 "NetHouse$Net" "puts" "[I") (by decide +kernel)) (fun _ h9 => h9) rfl dX5_connect_12 ?_
  refine lv_iload_n hx hb dX5_connect_15 rfl (lv_at hl 1 rfl) ?_
  refine lv_iload_n hx hb dX5_connect_16 rfl (lv_at hl 2 rfl) ?_
  obtain ⟨hPc, hDc⟩ := x_sub (wc := (wld_X9_crossing cI cJ cZ )) hP hD [] (n := 8) rfl rfl (by decide +kernel)
  refine x_calli (ws' := fun (u : Unit) => (wld_X5_connect cI cJ cZ h_p0 ad_p0 p0_places p0_steps p0_coloured p0_closed p0_heeds p0_needs p0_puts p0_putsInto (upd p0_takes r1.toNatClampNeg a3) p0_takesFrom)) hP hD hS hA [] [0, 1, 2, 3, 4, 5, 6, 7] [0, 1, 2, 3, 4, 5, 6, 7] (n := 8) (k := 0) rfl (fun _ => rfl) rfl (by decide +kernel) (fun _ => rfl) (va_runSN (As := [.int a1, .int a2]) (rest := [.ref (ad_p0 3)]) ⟨hx, hb, hml, hown, hts⟩ (c_X9_crossing (l := l) (dC := dC) (dI := dI) (cI := cI) (cJ := cJ) (cZ := cZ) (sz := H.size) hw) ⟨va_cnB (host := RX9) 2 hts gX5_connect_X9_crossing_n55 rfl rfl rfl n1 (hts (.initialized RX9) (by decide +kernel)) (by decide +kernel) ⟨Nat.le_of_ble_eq_true rfl, Nat.le_of_ble_eq_true rfl⟩, hts (.static yX9_crossing) (by decide +kernel), trivial⟩ ⟨xPre_blind, xPre_at hK hPc hDc n1 n2⟩ rfl rfl hl.1 rfl (lv_room (Nat.le_of_ble_eq_true rfl)) dX5_connect_17 ⟨Nat.zero_le _, Nat.zero_le _⟩) (fun r2 u H locs hw hP hD hS => ?_)
  try dsimp only at hw
  have hP : va_P (dC, dI) vwCl (wld_X5_connect cI cJ cZ h_p0 ad_p0 p0_places p0_steps p0_coloured p0_closed p0_heeds p0_needs p0_puts p0_putsInto (upd p0_takes r1.toNatClampNeg a3) p0_takesFrom) H := hP
  have hD : va_D A (wld_X5_connect cI cJ cZ h_p0 ad_p0 p0_places p0_steps p0_coloured p0_closed p0_heeds p0_needs p0_puts p0_putsInto (upd p0_takes r1.toNatClampNeg a3) p0_takesFrom) := hD
  refine lv_iload hx hb dX5_connect_20 (lv_at hl 4 rfl) ?_
  refine va_iast hx hb hK hP hD hS 4 0 rfl rfl hw.1 dX5_connect_22 (fun H locs hP hD hS => ?_)
  have hw := hw.2
  have hP : va_P (dC, dI) vwCl (wld_X5_connect cI cJ cZ h_p0 ad_p0 p0_places p0_steps p0_coloured p0_closed p0_heeds p0_needs (upd p0_puts r2.toNatClampNeg a4) p0_putsInto (upd p0_takes r1.toNatClampNeg a3) p0_takesFrom) H := hP
  have hD : va_D A (wld_X5_connect cI cJ cZ h_p0 ad_p0 p0_places p0_steps p0_coloured p0_closed p0_heeds p0_needs (upd p0_puts r2.toNatClampNeg a4) p0_putsInto (upd p0_takes r1.toNatClampNeg a3) p0_takesFrom) := hD
  refine lv_aload_n hx hb dX5_connect_23 rfl (lv_at hl 0 rfl) ?_
  refine va_get (D := (dC, dI)) (ci := 5) (v := .ref (ad_p0 8)) (C := RX5) (T := TX5) (N := 14) hx hb hts iX5 hown hK hP 0 rfl rfl 8 (by decide) (hts (.fieldLink RX5 36 "NetHouse$Net" "takesFrom" "[I") (by decide +kernel)) (fun _ h9 => h9) rfl dX5_connect_24 ?_
  refine lv_iload_n hx hb dX5_connect_27 rfl (lv_at hl 1 rfl) ?_
  refine lv_aload_n hx hb dX5_connect_28 rfl (lv_at hl 0 rfl) ?_
  refine va_get (D := (dC, dI)) (ci := 5) (v := .ref (ad_p0 8)) (C := RX5) (T := TX5) (N := 14) hx hb hts iX5 hown hK hP 0 rfl rfl 8 (by decide) (hts (.fieldLink RX5 36 "NetHouse$Net" "takesFrom" "[I") (by decide +kernel)) (fun _ h9 => h9) rfl dX5_connect_29 ?_
  refine lv_iload_n hx hb dX5_connect_32 rfl (lv_at hl 1 rfl) ?_
  refine va_iald hx hb hK hP 7 0 rfl rfl hw.1 dX5_connect_33 ?_
  have hw := hw.2
  refine lv_iload_n hx hb dX5_connect_34 rfl (lv_at hl 2 rfl) ?_
  refine lv_iload_n hx hb dX5_connect_35 rfl (lv_at hl 3 rfl) ?_
  refine lv_if_le (tgt := 43) hx hb dX5_connect_36 (by decide) (fun c3 => ?_) (fun c4 => ?_)
  · have hw := hw.1 c3
    refine lv_iconst (v := 0) hx hb dX5_connect_43 (by decide) ?_
    obtain ⟨hPc, hDc⟩ := x_sub (wc := (wld_X5_withBit cI cJ cZ )) hP hD [] (n := 8) rfl rfl (by decide +kernel)
    refine x_calli (ws' := fun (u : Unit) => (wld_X5_connect cI cJ cZ h_p0 ad_p0 p0_places p0_steps p0_coloured p0_closed p0_heeds p0_needs (upd p0_puts r2.toNatClampNeg a4) p0_putsInto (upd p0_takes r1.toNatClampNeg a3) p0_takesFrom)) hP hD hS hA [] [0, 1, 2, 3, 4, 5, 6, 7] [0, 1, 2, 3, 4, 5, 6, 7] (n := 8) (k := 0) rfl (fun _ => rfl) rfl (by decide +kernel) (fun _ => rfl) (va_runS (As := [.int (p0_takesFrom a1.toNatClampNeg), .int a2, .int (0 : Int32)]) (rest := [.int a1, .ref (ad_p0 8)]) ⟨hx, hb, hml, hown, hts⟩ (c_X5_withBit (l := l) (dC := dC) (dI := dI) (cI := cI) (cJ := cJ) (cZ := cZ) (sz := H.size) hw) (va_cwS 3 hts gX5_connect_X5_withBit rfl rfl rfl (by decide +kernel) ⟨Nat.le_of_ble_eq_true rfl, Nat.le_of_ble_eq_true rfl⟩) ⟨xPre_blind, xPre_at hK hPc hDc n1 n2⟩ rfl rfl hl.1 rfl (lv_room (Nat.le_of_ble_eq_true rfl)) dX5_connect_44 ⟨Nat.zero_le _, Nat.zero_le _⟩) (fun r5 u H locs hw hP hD hS => ?_)
    try dsimp only at hw
    have hP : va_P (dC, dI) vwCl (wld_X5_connect cI cJ cZ h_p0 ad_p0 p0_places p0_steps p0_coloured p0_closed p0_heeds p0_needs (upd p0_puts r2.toNatClampNeg a4) p0_putsInto (upd p0_takes r1.toNatClampNeg a3) p0_takesFrom) H := hP
    have hD : va_D A (wld_X5_connect cI cJ cZ h_p0 ad_p0 p0_places p0_steps p0_coloured p0_closed p0_heeds p0_needs (upd p0_puts r2.toNatClampNeg a4) p0_putsInto (upd p0_takes r1.toNatClampNeg a3) p0_takesFrom) := hD
    refine va_iast hx hb hK hP hD hS 7 0 rfl rfl hw.1 dX5_connect_47 (fun H locs hP hD hS => ?_)
    have hw := hw.2
    have hP : va_P (dC, dI) vwCl (wld_X5_connect cI cJ cZ h_p0 ad_p0 p0_places p0_steps p0_coloured p0_closed p0_heeds p0_needs (upd p0_puts r2.toNatClampNeg a4) p0_putsInto (upd p0_takes r1.toNatClampNeg a3) (upd p0_takesFrom a1.toNatClampNeg r5)) H := hP
    have hD : va_D A (wld_X5_connect cI cJ cZ h_p0 ad_p0 p0_places p0_steps p0_coloured p0_closed p0_heeds p0_needs (upd p0_puts r2.toNatClampNeg a4) p0_putsInto (upd p0_takes r1.toNatClampNeg a3) (upd p0_takesFrom a1.toNatClampNeg r5)) := hD
    refine lv_aload_n hx hb dX5_connect_48 rfl (lv_at hl 0 rfl) ?_
    refine va_get (D := (dC, dI)) (ci := 5) (v := .ref (ad_p0 9)) (C := RX5) (T := TX5) (N := 14) hx hb hts iX5 hown hK hP 0 rfl rfl 9 (by decide) (hts (.fieldLink RX5 39 "NetHouse$Net" "putsInto" "[I") (by decide +kernel)) (fun _ h9 => h9) rfl dX5_connect_49 ?_
    refine lv_iload_n hx hb dX5_connect_52 rfl (lv_at hl 1 rfl) ?_
    refine lv_aload_n hx hb dX5_connect_53 rfl (lv_at hl 0 rfl) ?_
    refine va_get (D := (dC, dI)) (ci := 5) (v := .ref (ad_p0 9)) (C := RX5) (T := TX5) (N := 14) hx hb hts iX5 hown hK hP 0 rfl rfl 9 (by decide) (hts (.fieldLink RX5 39 "NetHouse$Net" "putsInto" "[I") (by decide +kernel)) (fun _ h9 => h9) rfl dX5_connect_54 ?_
    refine lv_iload_n hx hb dX5_connect_57 rfl (lv_at hl 1 rfl) ?_
    refine va_iald hx hb hK hP 5 0 rfl rfl hw.1 dX5_connect_58 ?_
    have hw := hw.2
    refine lv_iload_n hx hb dX5_connect_59 rfl (lv_at hl 2 rfl) ?_
    refine lv_iload hx hb dX5_connect_60 (lv_at hl 4 rfl) ?_
    refine lv_if_le (tgt := 69) hx hb dX5_connect_62 (by decide) (fun c6 => ?_) (fun c7 => ?_)
    · have hw := hw.1 c6
      refine lv_iconst (v := 0) hx hb dX5_connect_69 (by decide) ?_
      obtain ⟨hPc, hDc⟩ := x_sub (wc := (wld_X5_withBit cI cJ cZ )) hP hD [] (n := 8) rfl rfl (by decide +kernel)
      refine x_calli (ws' := fun (u : Unit) => (wld_X5_connect cI cJ cZ h_p0 ad_p0 p0_places p0_steps p0_coloured p0_closed p0_heeds p0_needs (upd p0_puts r2.toNatClampNeg a4) p0_putsInto (upd p0_takes r1.toNatClampNeg a3) (upd p0_takesFrom a1.toNatClampNeg r5))) hP hD hS hA [] [0, 1, 2, 3, 4, 5, 6, 7] [0, 1, 2, 3, 4, 5, 6, 7] (n := 8) (k := 0) rfl (fun _ => rfl) rfl (by decide +kernel) (fun _ => rfl) (va_runS (As := [.int (p0_putsInto a1.toNatClampNeg), .int a2, .int (0 : Int32)]) (rest := [.int a1, .ref (ad_p0 9)]) ⟨hx, hb, hml, hown, hts⟩ (c_X5_withBit (l := l) (dC := dC) (dI := dI) (cI := cI) (cJ := cJ) (cZ := cZ) (sz := H.size) hw) (va_cwS 3 hts gX5_connect_X5_withBit rfl rfl rfl (by decide +kernel) ⟨Nat.le_of_ble_eq_true rfl, Nat.le_of_ble_eq_true rfl⟩) ⟨xPre_blind, xPre_at hK hPc hDc n1 n2⟩ rfl rfl hl.1 rfl (lv_room (Nat.le_of_ble_eq_true rfl)) dX5_connect_70 ⟨Nat.zero_le _, Nat.zero_le _⟩) (fun r8 u H locs hw hP hD hS => ?_)
      try dsimp only at hw
      have hP : va_P (dC, dI) vwCl (wld_X5_connect cI cJ cZ h_p0 ad_p0 p0_places p0_steps p0_coloured p0_closed p0_heeds p0_needs (upd p0_puts r2.toNatClampNeg a4) p0_putsInto (upd p0_takes r1.toNatClampNeg a3) (upd p0_takesFrom a1.toNatClampNeg r5)) H := hP
      have hD : va_D A (wld_X5_connect cI cJ cZ h_p0 ad_p0 p0_places p0_steps p0_coloured p0_closed p0_heeds p0_needs (upd p0_puts r2.toNatClampNeg a4) p0_putsInto (upd p0_takes r1.toNatClampNeg a3) (upd p0_takesFrom a1.toNatClampNeg r5)) := hD
      refine va_iast hx hb hK hP hD hS 5 0 rfl rfl hw.1 dX5_connect_73 (fun H locs hP hD hS => ?_)
      have hw := hw.2
      have hP : va_P (dC, dI) vwCl (wld_X5_connect cI cJ cZ h_p0 ad_p0 p0_places p0_steps p0_coloured p0_closed p0_heeds p0_needs (upd p0_puts r2.toNatClampNeg a4) (upd p0_putsInto a1.toNatClampNeg r8) (upd p0_takes r1.toNatClampNeg a3) (upd p0_takesFrom a1.toNatClampNeg r5)) H := hP
      have hD : va_D A (wld_X5_connect cI cJ cZ h_p0 ad_p0 p0_places p0_steps p0_coloured p0_closed p0_heeds p0_needs (upd p0_puts r2.toNatClampNeg a4) (upd p0_putsInto a1.toNatClampNeg r8) (upd p0_takes r1.toNatClampNeg a3) (upd p0_takesFrom a1.toNatClampNeg r5)) := hD
      refine lv_aload_n hx hb dX5_connect_74 rfl (lv_at hl 0 rfl) ?_
      refine lv_iload_n hx hb dX5_connect_75 rfl (lv_at hl 1 rfl) ?_
      refine lv_iload_n hx hb dX5_connect_76 rfl (lv_at hl 2 rfl) ?_
      obtain ⟨hPc, hDc⟩ := x_sub (wc := (wld_X5_heedIfAsked cI cJ cZ h_p0 ad_p0 p0_places p0_steps p0_coloured p0_closed p0_heeds p0_needs (upd p0_takes r1.toNatClampNeg a3))) hP hD [0, 1, 2, 3, 6] (n := 8) rfl rfl (by decide +kernel)
      refine x_callv (ws' := fun (u : (Nat → Int32)) => (wld_X5_connect cI cJ cZ h_p0 ad_p0 p0_places p0_steps p0_coloured p0_closed u p0_needs (upd p0_puts r2.toNatClampNeg a4) (upd p0_putsInto a1.toNatClampNeg r8) (upd p0_takes r1.toNatClampNeg a3) (upd p0_takesFrom a1.toNatClampNeg r5))) hP hD hS hA [0, 1, 2, 3, 6] [4, 5, 7] [3, 4, 5, 6, 0, 1, 7, 2] (n := 8) (k := 5) rfl (fun _ => rfl) rfl (by decide +kernel) (fun _ => rfl) (va_runV (As := [.int a1, .int a2]) (rest := []) ⟨hx, hb, hml, hown, hts⟩ (c_X5_heedIfAsked (l := l) (dC := dC) (dI := dI) (cI := cI) (cJ := cJ) (cZ := cZ) (sz := H.size) (h_p0 := h_p0) (ad_p0 := ad_p0) (p0_places := p0_places) (p0_steps := p0_steps) (p0_coloured := p0_coloured) (p0_closed := p0_closed) (p0_heeds := p0_heeds) (p0_needs := p0_needs) (p0_takes := (upd p0_takes r1.toNatClampNeg a3)) hw) (cwV 2 hts gX5_connect_X5_heedIfAsked rfl rfl rfl (by decide +kernel) ⟨Nat.le_of_ble_eq_true rfl, Nat.le_of_ble_eq_true rfl⟩) ⟨xPre_blind, va_recv hK hP (ci := 5) (q0 := 0) rfl rfl, xPre_at hK hPc hDc n1 n2⟩ rfl rfl hl.1 rfl (lv_room (Nat.le_of_ble_eq_true rfl)) dX5_connect_77 ⟨Nat.zero_le _, Nat.zero_le _⟩) (fun u H locs hw hP hD hS => ?_)
      obtain ⟨y9, rfl⟩ : ∃ z, z = u := ⟨_, rfl⟩
      try dsimp only at hw
      have hP : va_P (dC, dI) vwCl (wld_X5_connect cI cJ cZ h_p0 ad_p0 p0_places p0_steps p0_coloured p0_closed y9 p0_needs (upd p0_puts r2.toNatClampNeg a4) (upd p0_putsInto a1.toNatClampNeg r8) (upd p0_takes r1.toNatClampNeg a3) (upd p0_takesFrom a1.toNatClampNeg r5)) H := hP
      have hD : va_D A (wld_X5_connect cI cJ cZ h_p0 ad_p0 p0_places p0_steps p0_coloured p0_closed y9 p0_needs (upd p0_puts r2.toNatClampNeg a4) (upd p0_putsInto a1.toNatClampNeg r8) (upd p0_takes r1.toNatClampNeg a3) (upd p0_takesFrom a1.toNatClampNeg r5)) := hD
      exact x_vret (w1 := fun (u : (Nat → Int32) × (Nat → Int32) × (Nat → Int32) × (Nat → Int32) × (Nat → Int32)) => (wld_X5_connect cI cJ cZ h_p0 ad_p0 p0_places p0_steps p0_coloured p0_closed (u.1) p0_needs (u.2.1) (u.2.2.1) (u.2.2.2.1) (u.2.2.2.2))) hx hb hr hlocks (y9, (upd p0_puts r2.toNatClampNeg a4), (upd p0_putsInto a1.toNatClampNeg r8), (upd p0_takes r1.toNatClampNeg a3), (upd p0_takesFrom a1.toNatClampNeg r5)) hw hP hD hS dX5_connect_80
    · have hw := hw.2 c7
      refine lv_iconst (v := 1) hx hb dX5_connect_65 (by decide) ?_
      refine lv_goto (tgt := 70) hx hb dX5_connect_66 (by decide) ?_
      obtain ⟨hPc, hDc⟩ := x_sub (wc := (wld_X5_withBit cI cJ cZ )) hP hD [] (n := 8) rfl rfl (by decide +kernel)
      refine x_calli (ws' := fun (u : Unit) => (wld_X5_connect cI cJ cZ h_p0 ad_p0 p0_places p0_steps p0_coloured p0_closed p0_heeds p0_needs (upd p0_puts r2.toNatClampNeg a4) p0_putsInto (upd p0_takes r1.toNatClampNeg a3) (upd p0_takesFrom a1.toNatClampNeg r5))) hP hD hS hA [] [0, 1, 2, 3, 4, 5, 6, 7] [0, 1, 2, 3, 4, 5, 6, 7] (n := 8) (k := 0) rfl (fun _ => rfl) rfl (by decide +kernel) (fun _ => rfl) (va_runS (As := [.int (p0_putsInto a1.toNatClampNeg), .int a2, .int (1 : Int32)]) (rest := [.int a1, .ref (ad_p0 9)]) ⟨hx, hb, hml, hown, hts⟩ (c_X5_withBit (l := l) (dC := dC) (dI := dI) (cI := cI) (cJ := cJ) (cZ := cZ) (sz := H.size) hw) (va_cwS 3 hts gX5_connect_X5_withBit rfl rfl rfl (by decide +kernel) ⟨Nat.le_of_ble_eq_true rfl, Nat.le_of_ble_eq_true rfl⟩) ⟨xPre_blind, xPre_at hK hPc hDc n1 n2⟩ rfl rfl hl.1 rfl (lv_room (Nat.le_of_ble_eq_true rfl)) dX5_connect_70 ⟨Nat.zero_le _, Nat.zero_le _⟩) (fun r10 u H locs hw hP hD hS => ?_)
      try dsimp only at hw
      have hP : va_P (dC, dI) vwCl (wld_X5_connect cI cJ cZ h_p0 ad_p0 p0_places p0_steps p0_coloured p0_closed p0_heeds p0_needs (upd p0_puts r2.toNatClampNeg a4) p0_putsInto (upd p0_takes r1.toNatClampNeg a3) (upd p0_takesFrom a1.toNatClampNeg r5)) H := hP
      have hD : va_D A (wld_X5_connect cI cJ cZ h_p0 ad_p0 p0_places p0_steps p0_coloured p0_closed p0_heeds p0_needs (upd p0_puts r2.toNatClampNeg a4) p0_putsInto (upd p0_takes r1.toNatClampNeg a3) (upd p0_takesFrom a1.toNatClampNeg r5)) := hD
      refine va_iast hx hb hK hP hD hS 5 0 rfl rfl hw.1 dX5_connect_73 (fun H locs hP hD hS => ?_)
      have hw := hw.2
      have hP : va_P (dC, dI) vwCl (wld_X5_connect cI cJ cZ h_p0 ad_p0 p0_places p0_steps p0_coloured p0_closed p0_heeds p0_needs (upd p0_puts r2.toNatClampNeg a4) (upd p0_putsInto a1.toNatClampNeg r10) (upd p0_takes r1.toNatClampNeg a3) (upd p0_takesFrom a1.toNatClampNeg r5)) H := hP
      have hD : va_D A (wld_X5_connect cI cJ cZ h_p0 ad_p0 p0_places p0_steps p0_coloured p0_closed p0_heeds p0_needs (upd p0_puts r2.toNatClampNeg a4) (upd p0_putsInto a1.toNatClampNeg r10) (upd p0_takes r1.toNatClampNeg a3) (upd p0_takesFrom a1.toNatClampNeg r5)) := hD
      refine lv_aload_n hx hb dX5_connect_74 rfl (lv_at hl 0 rfl) ?_
      refine lv_iload_n hx hb dX5_connect_75 rfl (lv_at hl 1 rfl) ?_
      refine lv_iload_n hx hb dX5_connect_76 rfl (lv_at hl 2 rfl) ?_
      obtain ⟨hPc, hDc⟩ := x_sub (wc := (wld_X5_heedIfAsked cI cJ cZ h_p0 ad_p0 p0_places p0_steps p0_coloured p0_closed p0_heeds p0_needs (upd p0_takes r1.toNatClampNeg a3))) hP hD [0, 1, 2, 3, 6] (n := 8) rfl rfl (by decide +kernel)
      refine x_callv (ws' := fun (u : (Nat → Int32)) => (wld_X5_connect cI cJ cZ h_p0 ad_p0 p0_places p0_steps p0_coloured p0_closed u p0_needs (upd p0_puts r2.toNatClampNeg a4) (upd p0_putsInto a1.toNatClampNeg r10) (upd p0_takes r1.toNatClampNeg a3) (upd p0_takesFrom a1.toNatClampNeg r5))) hP hD hS hA [0, 1, 2, 3, 6] [4, 5, 7] [3, 4, 5, 6, 0, 1, 7, 2] (n := 8) (k := 5) rfl (fun _ => rfl) rfl (by decide +kernel) (fun _ => rfl) (va_runV (As := [.int a1, .int a2]) (rest := []) ⟨hx, hb, hml, hown, hts⟩ (c_X5_heedIfAsked (l := l) (dC := dC) (dI := dI) (cI := cI) (cJ := cJ) (cZ := cZ) (sz := H.size) (h_p0 := h_p0) (ad_p0 := ad_p0) (p0_places := p0_places) (p0_steps := p0_steps) (p0_coloured := p0_coloured) (p0_closed := p0_closed) (p0_heeds := p0_heeds) (p0_needs := p0_needs) (p0_takes := (upd p0_takes r1.toNatClampNeg a3)) hw) (cwV 2 hts gX5_connect_X5_heedIfAsked rfl rfl rfl (by decide +kernel) ⟨Nat.le_of_ble_eq_true rfl, Nat.le_of_ble_eq_true rfl⟩) ⟨xPre_blind, va_recv hK hP (ci := 5) (q0 := 0) rfl rfl, xPre_at hK hPc hDc n1 n2⟩ rfl rfl hl.1 rfl (lv_room (Nat.le_of_ble_eq_true rfl)) dX5_connect_77 ⟨Nat.zero_le _, Nat.zero_le _⟩) (fun u H locs hw hP hD hS => ?_)
      obtain ⟨y11, rfl⟩ : ∃ z, z = u := ⟨_, rfl⟩
      try dsimp only at hw
      have hP : va_P (dC, dI) vwCl (wld_X5_connect cI cJ cZ h_p0 ad_p0 p0_places p0_steps p0_coloured p0_closed y11 p0_needs (upd p0_puts r2.toNatClampNeg a4) (upd p0_putsInto a1.toNatClampNeg r10) (upd p0_takes r1.toNatClampNeg a3) (upd p0_takesFrom a1.toNatClampNeg r5)) H := hP
      have hD : va_D A (wld_X5_connect cI cJ cZ h_p0 ad_p0 p0_places p0_steps p0_coloured p0_closed y11 p0_needs (upd p0_puts r2.toNatClampNeg a4) (upd p0_putsInto a1.toNatClampNeg r10) (upd p0_takes r1.toNatClampNeg a3) (upd p0_takesFrom a1.toNatClampNeg r5)) := hD
      exact x_vret (w1 := fun (u : (Nat → Int32) × (Nat → Int32) × (Nat → Int32) × (Nat → Int32) × (Nat → Int32)) => (wld_X5_connect cI cJ cZ h_p0 ad_p0 p0_places p0_steps p0_coloured p0_closed (u.1) p0_needs (u.2.1) (u.2.2.1) (u.2.2.2.1) (u.2.2.2.2))) hx hb hr hlocks (y11, (upd p0_puts r2.toNatClampNeg a4), (upd p0_putsInto a1.toNatClampNeg r10), (upd p0_takes r1.toNatClampNeg a3), (upd p0_takesFrom a1.toNatClampNeg r5)) hw hP hD hS dX5_connect_80
  · have hw := hw.2 c4
    refine lv_iconst (v := 1) hx hb dX5_connect_39 (by decide) ?_
    refine lv_goto (tgt := 44) hx hb dX5_connect_40 (by decide) ?_
    obtain ⟨hPc, hDc⟩ := x_sub (wc := (wld_X5_withBit cI cJ cZ )) hP hD [] (n := 8) rfl rfl (by decide +kernel)
    refine x_calli (ws' := fun (u : Unit) => (wld_X5_connect cI cJ cZ h_p0 ad_p0 p0_places p0_steps p0_coloured p0_closed p0_heeds p0_needs (upd p0_puts r2.toNatClampNeg a4) p0_putsInto (upd p0_takes r1.toNatClampNeg a3) p0_takesFrom)) hP hD hS hA [] [0, 1, 2, 3, 4, 5, 6, 7] [0, 1, 2, 3, 4, 5, 6, 7] (n := 8) (k := 0) rfl (fun _ => rfl) rfl (by decide +kernel) (fun _ => rfl) (va_runS (As := [.int (p0_takesFrom a1.toNatClampNeg), .int a2, .int (1 : Int32)]) (rest := [.int a1, .ref (ad_p0 8)]) ⟨hx, hb, hml, hown, hts⟩ (c_X5_withBit (l := l) (dC := dC) (dI := dI) (cI := cI) (cJ := cJ) (cZ := cZ) (sz := H.size) hw) (va_cwS 3 hts gX5_connect_X5_withBit rfl rfl rfl (by decide +kernel) ⟨Nat.le_of_ble_eq_true rfl, Nat.le_of_ble_eq_true rfl⟩) ⟨xPre_blind, xPre_at hK hPc hDc n1 n2⟩ rfl rfl hl.1 rfl (lv_room (Nat.le_of_ble_eq_true rfl)) dX5_connect_44 ⟨Nat.zero_le _, Nat.zero_le _⟩) (fun r12 u H locs hw hP hD hS => ?_)
    try dsimp only at hw
    have hP : va_P (dC, dI) vwCl (wld_X5_connect cI cJ cZ h_p0 ad_p0 p0_places p0_steps p0_coloured p0_closed p0_heeds p0_needs (upd p0_puts r2.toNatClampNeg a4) p0_putsInto (upd p0_takes r1.toNatClampNeg a3) p0_takesFrom) H := hP
    have hD : va_D A (wld_X5_connect cI cJ cZ h_p0 ad_p0 p0_places p0_steps p0_coloured p0_closed p0_heeds p0_needs (upd p0_puts r2.toNatClampNeg a4) p0_putsInto (upd p0_takes r1.toNatClampNeg a3) p0_takesFrom) := hD
    refine va_iast hx hb hK hP hD hS 7 0 rfl rfl hw.1 dX5_connect_47 (fun H locs hP hD hS => ?_)
    have hw := hw.2
    have hP : va_P (dC, dI) vwCl (wld_X5_connect cI cJ cZ h_p0 ad_p0 p0_places p0_steps p0_coloured p0_closed p0_heeds p0_needs (upd p0_puts r2.toNatClampNeg a4) p0_putsInto (upd p0_takes r1.toNatClampNeg a3) (upd p0_takesFrom a1.toNatClampNeg r12)) H := hP
    have hD : va_D A (wld_X5_connect cI cJ cZ h_p0 ad_p0 p0_places p0_steps p0_coloured p0_closed p0_heeds p0_needs (upd p0_puts r2.toNatClampNeg a4) p0_putsInto (upd p0_takes r1.toNatClampNeg a3) (upd p0_takesFrom a1.toNatClampNeg r12)) := hD
    refine lv_aload_n hx hb dX5_connect_48 rfl (lv_at hl 0 rfl) ?_
    refine va_get (D := (dC, dI)) (ci := 5) (v := .ref (ad_p0 9)) (C := RX5) (T := TX5) (N := 14) hx hb hts iX5 hown hK hP 0 rfl rfl 9 (by decide) (hts (.fieldLink RX5 39 "NetHouse$Net" "putsInto" "[I") (by decide +kernel)) (fun _ h9 => h9) rfl dX5_connect_49 ?_
    refine lv_iload_n hx hb dX5_connect_52 rfl (lv_at hl 1 rfl) ?_
    refine lv_aload_n hx hb dX5_connect_53 rfl (lv_at hl 0 rfl) ?_
    refine va_get (D := (dC, dI)) (ci := 5) (v := .ref (ad_p0 9)) (C := RX5) (T := TX5) (N := 14) hx hb hts iX5 hown hK hP 0 rfl rfl 9 (by decide) (hts (.fieldLink RX5 39 "NetHouse$Net" "putsInto" "[I") (by decide +kernel)) (fun _ h9 => h9) rfl dX5_connect_54 ?_
    refine lv_iload_n hx hb dX5_connect_57 rfl (lv_at hl 1 rfl) ?_
    refine va_iald hx hb hK hP 5 0 rfl rfl hw.1 dX5_connect_58 ?_
    have hw := hw.2
    refine lv_iload_n hx hb dX5_connect_59 rfl (lv_at hl 2 rfl) ?_
    refine lv_iload hx hb dX5_connect_60 (lv_at hl 4 rfl) ?_
    refine lv_if_le (tgt := 69) hx hb dX5_connect_62 (by decide) (fun c13 => ?_) (fun c14 => ?_)
    · have hw := hw.1 c13
      refine lv_iconst (v := 0) hx hb dX5_connect_69 (by decide) ?_
      obtain ⟨hPc, hDc⟩ := x_sub (wc := (wld_X5_withBit cI cJ cZ )) hP hD [] (n := 8) rfl rfl (by decide +kernel)
      refine x_calli (ws' := fun (u : Unit) => (wld_X5_connect cI cJ cZ h_p0 ad_p0 p0_places p0_steps p0_coloured p0_closed p0_heeds p0_needs (upd p0_puts r2.toNatClampNeg a4) p0_putsInto (upd p0_takes r1.toNatClampNeg a3) (upd p0_takesFrom a1.toNatClampNeg r12))) hP hD hS hA [] [0, 1, 2, 3, 4, 5, 6, 7] [0, 1, 2, 3, 4, 5, 6, 7] (n := 8) (k := 0) rfl (fun _ => rfl) rfl (by decide +kernel) (fun _ => rfl) (va_runS (As := [.int (p0_putsInto a1.toNatClampNeg), .int a2, .int (0 : Int32)]) (rest := [.int a1, .ref (ad_p0 9)]) ⟨hx, hb, hml, hown, hts⟩ (c_X5_withBit (l := l) (dC := dC) (dI := dI) (cI := cI) (cJ := cJ) (cZ := cZ) (sz := H.size) hw) (va_cwS 3 hts gX5_connect_X5_withBit rfl rfl rfl (by decide +kernel) ⟨Nat.le_of_ble_eq_true rfl, Nat.le_of_ble_eq_true rfl⟩) ⟨xPre_blind, xPre_at hK hPc hDc n1 n2⟩ rfl rfl hl.1 rfl (lv_room (Nat.le_of_ble_eq_true rfl)) dX5_connect_70 ⟨Nat.zero_le _, Nat.zero_le _⟩) (fun r15 u H locs hw hP hD hS => ?_)
      try dsimp only at hw
      have hP : va_P (dC, dI) vwCl (wld_X5_connect cI cJ cZ h_p0 ad_p0 p0_places p0_steps p0_coloured p0_closed p0_heeds p0_needs (upd p0_puts r2.toNatClampNeg a4) p0_putsInto (upd p0_takes r1.toNatClampNeg a3) (upd p0_takesFrom a1.toNatClampNeg r12)) H := hP
      have hD : va_D A (wld_X5_connect cI cJ cZ h_p0 ad_p0 p0_places p0_steps p0_coloured p0_closed p0_heeds p0_needs (upd p0_puts r2.toNatClampNeg a4) p0_putsInto (upd p0_takes r1.toNatClampNeg a3) (upd p0_takesFrom a1.toNatClampNeg r12)) := hD
      refine va_iast hx hb hK hP hD hS 5 0 rfl rfl hw.1 dX5_connect_73 (fun H locs hP hD hS => ?_)
      have hw := hw.2
      have hP : va_P (dC, dI) vwCl (wld_X5_connect cI cJ cZ h_p0 ad_p0 p0_places p0_steps p0_coloured p0_closed p0_heeds p0_needs (upd p0_puts r2.toNatClampNeg a4) (upd p0_putsInto a1.toNatClampNeg r15) (upd p0_takes r1.toNatClampNeg a3) (upd p0_takesFrom a1.toNatClampNeg r12)) H := hP
      have hD : va_D A (wld_X5_connect cI cJ cZ h_p0 ad_p0 p0_places p0_steps p0_coloured p0_closed p0_heeds p0_needs (upd p0_puts r2.toNatClampNeg a4) (upd p0_putsInto a1.toNatClampNeg r15) (upd p0_takes r1.toNatClampNeg a3) (upd p0_takesFrom a1.toNatClampNeg r12)) := hD
      refine lv_aload_n hx hb dX5_connect_74 rfl (lv_at hl 0 rfl) ?_
      refine lv_iload_n hx hb dX5_connect_75 rfl (lv_at hl 1 rfl) ?_
      refine lv_iload_n hx hb dX5_connect_76 rfl (lv_at hl 2 rfl) ?_
      obtain ⟨hPc, hDc⟩ := x_sub (wc := (wld_X5_heedIfAsked cI cJ cZ h_p0 ad_p0 p0_places p0_steps p0_coloured p0_closed p0_heeds p0_needs (upd p0_takes r1.toNatClampNeg a3))) hP hD [0, 1, 2, 3, 6] (n := 8) rfl rfl (by decide +kernel)
      refine x_callv (ws' := fun (u : (Nat → Int32)) => (wld_X5_connect cI cJ cZ h_p0 ad_p0 p0_places p0_steps p0_coloured p0_closed u p0_needs (upd p0_puts r2.toNatClampNeg a4) (upd p0_putsInto a1.toNatClampNeg r15) (upd p0_takes r1.toNatClampNeg a3) (upd p0_takesFrom a1.toNatClampNeg r12))) hP hD hS hA [0, 1, 2, 3, 6] [4, 5, 7] [3, 4, 5, 6, 0, 1, 7, 2] (n := 8) (k := 5) rfl (fun _ => rfl) rfl (by decide +kernel) (fun _ => rfl) (va_runV (As := [.int a1, .int a2]) (rest := []) ⟨hx, hb, hml, hown, hts⟩ (c_X5_heedIfAsked (l := l) (dC := dC) (dI := dI) (cI := cI) (cJ := cJ) (cZ := cZ) (sz := H.size) (h_p0 := h_p0) (ad_p0 := ad_p0) (p0_places := p0_places) (p0_steps := p0_steps) (p0_coloured := p0_coloured) (p0_closed := p0_closed) (p0_heeds := p0_heeds) (p0_needs := p0_needs) (p0_takes := (upd p0_takes r1.toNatClampNeg a3)) hw) (cwV 2 hts gX5_connect_X5_heedIfAsked rfl rfl rfl (by decide +kernel) ⟨Nat.le_of_ble_eq_true rfl, Nat.le_of_ble_eq_true rfl⟩) ⟨xPre_blind, va_recv hK hP (ci := 5) (q0 := 0) rfl rfl, xPre_at hK hPc hDc n1 n2⟩ rfl rfl hl.1 rfl (lv_room (Nat.le_of_ble_eq_true rfl)) dX5_connect_77 ⟨Nat.zero_le _, Nat.zero_le _⟩) (fun u H locs hw hP hD hS => ?_)
      obtain ⟨y16, rfl⟩ : ∃ z, z = u := ⟨_, rfl⟩
      try dsimp only at hw
      have hP : va_P (dC, dI) vwCl (wld_X5_connect cI cJ cZ h_p0 ad_p0 p0_places p0_steps p0_coloured p0_closed y16 p0_needs (upd p0_puts r2.toNatClampNeg a4) (upd p0_putsInto a1.toNatClampNeg r15) (upd p0_takes r1.toNatClampNeg a3) (upd p0_takesFrom a1.toNatClampNeg r12)) H := hP
      have hD : va_D A (wld_X5_connect cI cJ cZ h_p0 ad_p0 p0_places p0_steps p0_coloured p0_closed y16 p0_needs (upd p0_puts r2.toNatClampNeg a4) (upd p0_putsInto a1.toNatClampNeg r15) (upd p0_takes r1.toNatClampNeg a3) (upd p0_takesFrom a1.toNatClampNeg r12)) := hD
      exact x_vret (w1 := fun (u : (Nat → Int32) × (Nat → Int32) × (Nat → Int32) × (Nat → Int32) × (Nat → Int32)) => (wld_X5_connect cI cJ cZ h_p0 ad_p0 p0_places p0_steps p0_coloured p0_closed (u.1) p0_needs (u.2.1) (u.2.2.1) (u.2.2.2.1) (u.2.2.2.2))) hx hb hr hlocks (y16, (upd p0_puts r2.toNatClampNeg a4), (upd p0_putsInto a1.toNatClampNeg r15), (upd p0_takes r1.toNatClampNeg a3), (upd p0_takesFrom a1.toNatClampNeg r12)) hw hP hD hS dX5_connect_80
    · have hw := hw.2 c14
      refine lv_iconst (v := 1) hx hb dX5_connect_65 (by decide) ?_
      refine lv_goto (tgt := 70) hx hb dX5_connect_66 (by decide) ?_
      obtain ⟨hPc, hDc⟩ := x_sub (wc := (wld_X5_withBit cI cJ cZ )) hP hD [] (n := 8) rfl rfl (by decide +kernel)
      refine x_calli (ws' := fun (u : Unit) => (wld_X5_connect cI cJ cZ h_p0 ad_p0 p0_places p0_steps p0_coloured p0_closed p0_heeds p0_needs (upd p0_puts r2.toNatClampNeg a4) p0_putsInto (upd p0_takes r1.toNatClampNeg a3) (upd p0_takesFrom a1.toNatClampNeg r12))) hP hD hS hA [] [0, 1, 2, 3, 4, 5, 6, 7] [0, 1, 2, 3, 4, 5, 6, 7] (n := 8) (k := 0) rfl (fun _ => rfl) rfl (by decide +kernel) (fun _ => rfl) (va_runS (As := [.int (p0_putsInto a1.toNatClampNeg), .int a2, .int (1 : Int32)]) (rest := [.int a1, .ref (ad_p0 9)]) ⟨hx, hb, hml, hown, hts⟩ (c_X5_withBit (l := l) (dC := dC) (dI := dI) (cI := cI) (cJ := cJ) (cZ := cZ) (sz := H.size) hw) (va_cwS 3 hts gX5_connect_X5_withBit rfl rfl rfl (by decide +kernel) ⟨Nat.le_of_ble_eq_true rfl, Nat.le_of_ble_eq_true rfl⟩) ⟨xPre_blind, xPre_at hK hPc hDc n1 n2⟩ rfl rfl hl.1 rfl (lv_room (Nat.le_of_ble_eq_true rfl)) dX5_connect_70 ⟨Nat.zero_le _, Nat.zero_le _⟩) (fun r17 u H locs hw hP hD hS => ?_)
      try dsimp only at hw
      have hP : va_P (dC, dI) vwCl (wld_X5_connect cI cJ cZ h_p0 ad_p0 p0_places p0_steps p0_coloured p0_closed p0_heeds p0_needs (upd p0_puts r2.toNatClampNeg a4) p0_putsInto (upd p0_takes r1.toNatClampNeg a3) (upd p0_takesFrom a1.toNatClampNeg r12)) H := hP
      have hD : va_D A (wld_X5_connect cI cJ cZ h_p0 ad_p0 p0_places p0_steps p0_coloured p0_closed p0_heeds p0_needs (upd p0_puts r2.toNatClampNeg a4) p0_putsInto (upd p0_takes r1.toNatClampNeg a3) (upd p0_takesFrom a1.toNatClampNeg r12)) := hD
      refine va_iast hx hb hK hP hD hS 5 0 rfl rfl hw.1 dX5_connect_73 (fun H locs hP hD hS => ?_)
      have hw := hw.2
      have hP : va_P (dC, dI) vwCl (wld_X5_connect cI cJ cZ h_p0 ad_p0 p0_places p0_steps p0_coloured p0_closed p0_heeds p0_needs (upd p0_puts r2.toNatClampNeg a4) (upd p0_putsInto a1.toNatClampNeg r17) (upd p0_takes r1.toNatClampNeg a3) (upd p0_takesFrom a1.toNatClampNeg r12)) H := hP
      have hD : va_D A (wld_X5_connect cI cJ cZ h_p0 ad_p0 p0_places p0_steps p0_coloured p0_closed p0_heeds p0_needs (upd p0_puts r2.toNatClampNeg a4) (upd p0_putsInto a1.toNatClampNeg r17) (upd p0_takes r1.toNatClampNeg a3) (upd p0_takesFrom a1.toNatClampNeg r12)) := hD
      refine lv_aload_n hx hb dX5_connect_74 rfl (lv_at hl 0 rfl) ?_
      refine lv_iload_n hx hb dX5_connect_75 rfl (lv_at hl 1 rfl) ?_
      refine lv_iload_n hx hb dX5_connect_76 rfl (lv_at hl 2 rfl) ?_
      obtain ⟨hPc, hDc⟩ := x_sub (wc := (wld_X5_heedIfAsked cI cJ cZ h_p0 ad_p0 p0_places p0_steps p0_coloured p0_closed p0_heeds p0_needs (upd p0_takes r1.toNatClampNeg a3))) hP hD [0, 1, 2, 3, 6] (n := 8) rfl rfl (by decide +kernel)
      refine x_callv (ws' := fun (u : (Nat → Int32)) => (wld_X5_connect cI cJ cZ h_p0 ad_p0 p0_places p0_steps p0_coloured p0_closed u p0_needs (upd p0_puts r2.toNatClampNeg a4) (upd p0_putsInto a1.toNatClampNeg r17) (upd p0_takes r1.toNatClampNeg a3) (upd p0_takesFrom a1.toNatClampNeg r12))) hP hD hS hA [0, 1, 2, 3, 6] [4, 5, 7] [3, 4, 5, 6, 0, 1, 7, 2] (n := 8) (k := 5) rfl (fun _ => rfl) rfl (by decide +kernel) (fun _ => rfl) (va_runV (As := [.int a1, .int a2]) (rest := []) ⟨hx, hb, hml, hown, hts⟩ (c_X5_heedIfAsked (l := l) (dC := dC) (dI := dI) (cI := cI) (cJ := cJ) (cZ := cZ) (sz := H.size) (h_p0 := h_p0) (ad_p0 := ad_p0) (p0_places := p0_places) (p0_steps := p0_steps) (p0_coloured := p0_coloured) (p0_closed := p0_closed) (p0_heeds := p0_heeds) (p0_needs := p0_needs) (p0_takes := (upd p0_takes r1.toNatClampNeg a3)) hw) (cwV 2 hts gX5_connect_X5_heedIfAsked rfl rfl rfl (by decide +kernel) ⟨Nat.le_of_ble_eq_true rfl, Nat.le_of_ble_eq_true rfl⟩) ⟨xPre_blind, va_recv hK hP (ci := 5) (q0 := 0) rfl rfl, xPre_at hK hPc hDc n1 n2⟩ rfl rfl hl.1 rfl (lv_room (Nat.le_of_ble_eq_true rfl)) dX5_connect_77 ⟨Nat.zero_le _, Nat.zero_le _⟩) (fun u H locs hw hP hD hS => ?_)
      obtain ⟨y18, rfl⟩ : ∃ z, z = u := ⟨_, rfl⟩
      try dsimp only at hw
      have hP : va_P (dC, dI) vwCl (wld_X5_connect cI cJ cZ h_p0 ad_p0 p0_places p0_steps p0_coloured p0_closed y18 p0_needs (upd p0_puts r2.toNatClampNeg a4) (upd p0_putsInto a1.toNatClampNeg r17) (upd p0_takes r1.toNatClampNeg a3) (upd p0_takesFrom a1.toNatClampNeg r12)) H := hP
      have hD : va_D A (wld_X5_connect cI cJ cZ h_p0 ad_p0 p0_places p0_steps p0_coloured p0_closed y18 p0_needs (upd p0_puts r2.toNatClampNeg a4) (upd p0_putsInto a1.toNatClampNeg r17) (upd p0_takes r1.toNatClampNeg a3) (upd p0_takesFrom a1.toNatClampNeg r12)) := hD
      exact x_vret (w1 := fun (u : (Nat → Int32) × (Nat → Int32) × (Nat → Int32) × (Nat → Int32) × (Nat → Int32)) => (wld_X5_connect cI cJ cZ h_p0 ad_p0 p0_places p0_steps p0_coloured p0_closed (u.1) p0_needs (u.2.1) (u.2.2.1) (u.2.2.2.1) (u.2.2.2.2))) hx hb hr hlocks (y18, (upd p0_puts r2.toNatClampNeg a4), (upd p0_putsInto a1.toNatClampNeg r17), (upd p0_takes r1.toNatClampNeg a3), (upd p0_takesFrom a1.toNatClampNeg r12)) hw hP hD hS dX5_connect_80
abbrev wld_X5_tellNeed (cI cJ cZ : ClassId) (h_p0 : Nat) (ad_p0 : Nat → Nat) (p0_places : Int32) (p0_steps : Int32) (p0_coloured : Int32) (p0_closed : Nat → Int32) (p0_heeds : Nat → Int32) (p0_needs : Nat → Int32) (p0_takes : Nat → Int32) : va_W := [(h_p0, .inr (5, [.ref (ad_p0 0), .ref (ad_p0 1), .ref (ad_p0 2), .ref (ad_p0 3), .ref (ad_p0 4), .ref (ad_p0 5), .ref (ad_p0 6), .ref (ad_p0 7), .ref (ad_p0 8), .ref (ad_p0 9), .ref (ad_p0 10), .int p0_places, .int p0_steps, .int p0_coloured])), ((ad_p0 5), .inl (cI, 256, .inl p0_closed)), ((ad_p0 10), .inl (cI, 16, .inl p0_heeds)), ((ad_p0 4), .inl (cI, 256, .inl p0_needs)), ((ad_p0 2), .inl (cI, 256, .inl p0_takes))]
abbrev q_X5_tellNeed (dC : Nat → ClassId) (dI : Nat → Nat → Nat) (cI cJ cZ : ClassId) (h_p0 : Nat) (ad_p0 : Nat → Nat) (p0_places : Int32) (p0_steps : Int32) (p0_coloured : Int32) (p0_closed : Nat → Int32) (p0_heeds : Nat → Int32) (p0_needs : Nat → Int32) (p0_takes : Nat → Int32) (post : (Nat → Int32) → (Nat → Int32) → Prop) (A : Nat → Prop) : Array Value → State → Outcome → State → Prop := va_Qv (fun (u : (Nat → Int32) × (Nat → Int32)) => post (u.1) (u.2)) (fun (u : (Nat → Int32) × (Nat → Int32)) t => xPost (dC, dI) A (wld_X5_tellNeed cI cJ cZ h_p0 ad_p0 p0_places p0_steps p0_coloured p0_closed (u.1) (u.2) p0_takes) t) A
def w_X5_tellNeed (p0_closed : Nat → Int32) (p0_heeds : Nat → Int32) (p0_needs : Nat → Int32) (p0_takes : Nat → Int32) (a1 : Int32) (a2 : Int32) (a3 : Int32) (post : (Nat → Int32) → (Nat → Int32) → Prop) : Prop :=
  w_X9_crossing a1 a2 (fun r1 =>
  vp_in r1 256 ∧
  w_X5_heedIfAsked p0_closed p0_heeds (upd p0_needs r1.toNatClampNeg a3) p0_takes a1 a2 (fun y2 =>
  (post y2 (upd p0_needs r1.toNatClampNeg a3))))
set_option maxHeartbeats 4000000 in
set_option maxRecDepth 100000 in
theorem c_X5_tellNeed {l : Launch} {dC : Nat → ClassId} {dI : Nat → Nat → Nat} {sz : Nat} {cI cJ cZ : ClassId} {h_p0 : Nat} {ad_p0 : Nat → Nat} {p0_places : Int32} {p0_steps : Int32} {p0_coloured : Int32} {p0_closed : Nat → Int32} {p0_heeds : Nat → Int32} {p0_needs : Nat → Int32} {p0_takes : Nat → Int32} {a1 : Int32} {a2 : Int32} {a3 : Int32} {post : (Nat → Int32) → (Nat → Int32) → Prop} (hw : w_X5_tellNeed p0_closed p0_heeds p0_needs p0_takes a1 a2 a3 post) : Met l yX5_tellNeed wsX5_tellNeed ({ frames := 2, cells := 0, slots := 0, locals := 45 }) (va_Pc [.ref h_p0, .int a1, .int a2, .int a3] (xPre (dC, dI) cI cJ cZ (wld_X5_tellNeed cI cJ cZ h_p0 ad_p0 p0_places p0_steps p0_coloured p0_closed p0_heeds p0_needs p0_takes) sz)) (q_X5_tellNeed dC dI cI cJ cZ h_p0 ad_p0 p0_places p0_steps p0_coloured p0_closed p0_heeds p0_needs p0_takes post (va_A (wld_X5_tellNeed cI cJ cZ h_p0 ad_p0 p0_places p0_steps p0_coloured p0_closed p0_heeds p0_needs p0_takes) sz)) 0 0 (va_A (wld_X5_tellNeed cI cJ cZ h_p0 ad_p0 p0_places p0_steps p0_coloured p0_closed p0_heeds p0_needs p0_takes) sz) := by
  refine x_met (cc := cX5_tellNeed) (maxL := 4) (ret := none) (own := RX5) (Qc := fun A => (q_X5_tellNeed dC dI cI cJ cZ h_p0 ad_p0 p0_places p0_steps p0_coloured p0_closed p0_heeds p0_needs p0_takes post A)) (by decide) rfl rfl (Nat.le_of_ble_eq_true rfl) ?_
  intro p e s m args below meth c A ls E0 hP hD hS hl
  obtain ⟨hx, hb, hr, hml, hown, hts, hlocks, hK, hA, n1, n2⟩ := id E0
  have iX5 : ∀ w ∈ u_ws RX5 TX5 14, w ∈ wsX5_tellNeed := fun w h => List.mem_cons_of_mem _ (List.mem_append_right _ h)
  have hS0 := hS
  have hl : lv_has ls 4 [(0, .ref h_p0), (1, .int a1), (2, .int a2), (3, .int a3)] := hl
  unfold w_X5_tellNeed at hw
  obtain ⟨H, hH⟩ : ∃ H, H = s.heap := ⟨_, rfl⟩
  have hS : va_S A s.heap H [] := by rw [hH]; exact hS
  have hP : va_P (dC, dI) vwCl (wld_X5_tellNeed cI cJ cZ h_p0 ad_p0 p0_places p0_steps p0_coloured p0_closed p0_heeds p0_needs p0_takes) H := by rw [hH]; exact hP
  suffices hG : W p l e ({ frames := 2, cells := 0, slots := 0, locals := 45 }) s m args below meth c H [] 0 0 (MQ below (q_X5_tellNeed dC dI cI cJ cZ h_p0 ad_p0 p0_places p0_steps p0_coloured p0_closed p0_heeds p0_needs p0_takes post A) args s 0 0 A) (F0 m 0 ls []) by rw [hH] at hG; exact hG
  clear hH
  refine lv_aload_n hx hb dX5_tellNeed_0 rfl (lv_at hl 0 rfl) ?_
  refine va_get (D := (dC, dI)) (ci := 5) (v := .ref (ad_p0 4)) (C := RX5) (T := TX5) (N := 14) hx hb hts iX5 hown hK hP 0 rfl rfl 4 (by decide) (hts (.fieldLink RX5 24 "NetHouse$Net" "needs" "[I") (by decide +kernel)) (fun _ h9 => h9) rfl dX5_tellNeed_1 ?_
  refine lv_iload_n hx hb dX5_tellNeed_4 rfl (lv_at hl 1 rfl) ?_
  refine lv_iload_n hx hb dX5_tellNeed_5 rfl (lv_at hl 2 rfl) ?_
  obtain ⟨hPc, hDc⟩ := x_sub (wc := (wld_X9_crossing cI cJ cZ )) hP hD [] (n := 5) rfl rfl (by decide +kernel)
  refine x_calli (ws' := fun (u : Unit) => (wld_X5_tellNeed cI cJ cZ h_p0 ad_p0 p0_places p0_steps p0_coloured p0_closed p0_heeds p0_needs p0_takes)) hP hD hS hA [] [0, 1, 2, 3, 4] [0, 1, 2, 3, 4] (n := 5) (k := 0) rfl (fun _ => rfl) rfl (by decide +kernel) (fun _ => rfl) (va_runSN (As := [.int a1, .int a2]) (rest := [.ref (ad_p0 4)]) ⟨hx, hb, hml, hown, hts⟩ (c_X9_crossing (l := l) (dC := dC) (dI := dI) (cI := cI) (cJ := cJ) (cZ := cZ) (sz := H.size) hw) ⟨va_cnB (host := RX9) 2 hts gX5_tellNeed_X9_crossing_n55 rfl rfl rfl n1 (hts (.initialized RX9) (by decide +kernel)) (by decide +kernel) ⟨Nat.le_of_ble_eq_true rfl, Nat.le_of_ble_eq_true rfl⟩, hts (.static yX9_crossing) (by decide +kernel), trivial⟩ ⟨xPre_blind, xPre_at hK hPc hDc n1 n2⟩ rfl rfl hl.1 rfl (lv_room (Nat.le_of_ble_eq_true rfl)) dX5_tellNeed_6 ⟨Nat.zero_le _, Nat.zero_le _⟩) (fun r1 u H locs hw hP hD hS => ?_)
  try dsimp only at hw
  have hP : va_P (dC, dI) vwCl (wld_X5_tellNeed cI cJ cZ h_p0 ad_p0 p0_places p0_steps p0_coloured p0_closed p0_heeds p0_needs p0_takes) H := hP
  have hD : va_D A (wld_X5_tellNeed cI cJ cZ h_p0 ad_p0 p0_places p0_steps p0_coloured p0_closed p0_heeds p0_needs p0_takes) := hD
  refine lv_iload_n hx hb dX5_tellNeed_9 rfl (lv_at hl 3 rfl) ?_
  refine va_iast hx hb hK hP hD hS 3 0 rfl rfl hw.1 dX5_tellNeed_10 (fun H locs hP hD hS => ?_)
  have hw := hw.2
  have hP : va_P (dC, dI) vwCl (wld_X5_tellNeed cI cJ cZ h_p0 ad_p0 p0_places p0_steps p0_coloured p0_closed p0_heeds (upd p0_needs r1.toNatClampNeg a3) p0_takes) H := hP
  have hD : va_D A (wld_X5_tellNeed cI cJ cZ h_p0 ad_p0 p0_places p0_steps p0_coloured p0_closed p0_heeds (upd p0_needs r1.toNatClampNeg a3) p0_takes) := hD
  refine lv_aload_n hx hb dX5_tellNeed_11 rfl (lv_at hl 0 rfl) ?_
  refine lv_iload_n hx hb dX5_tellNeed_12 rfl (lv_at hl 1 rfl) ?_
  refine lv_iload_n hx hb dX5_tellNeed_13 rfl (lv_at hl 2 rfl) ?_
  obtain ⟨hPc, hDc⟩ := x_sub (wc := (wld_X5_heedIfAsked cI cJ cZ h_p0 ad_p0 p0_places p0_steps p0_coloured p0_closed p0_heeds (upd p0_needs r1.toNatClampNeg a3) p0_takes)) hP hD [0, 1, 2, 3, 4] (n := 5) rfl rfl (by decide +kernel)
  refine x_callv (ws' := fun (u : (Nat → Int32)) => (wld_X5_tellNeed cI cJ cZ h_p0 ad_p0 p0_places p0_steps p0_coloured p0_closed u (upd p0_needs r1.toNatClampNeg a3) p0_takes)) hP hD hS hA [0, 1, 2, 3, 4] [] [0, 1, 2, 3, 4] (n := 5) (k := 5) rfl (fun _ => rfl) rfl (by decide +kernel) (fun _ => rfl) (va_runV (As := [.int a1, .int a2]) (rest := []) ⟨hx, hb, hml, hown, hts⟩ (c_X5_heedIfAsked (l := l) (dC := dC) (dI := dI) (cI := cI) (cJ := cJ) (cZ := cZ) (sz := H.size) (h_p0 := h_p0) (ad_p0 := ad_p0) (p0_places := p0_places) (p0_steps := p0_steps) (p0_coloured := p0_coloured) (p0_closed := p0_closed) (p0_heeds := p0_heeds) (p0_needs := (upd p0_needs r1.toNatClampNeg a3)) (p0_takes := p0_takes) hw) (cwV 2 hts gX5_tellNeed_X5_heedIfAsked rfl rfl rfl (by decide +kernel) ⟨Nat.le_of_ble_eq_true rfl, Nat.le_of_ble_eq_true rfl⟩) ⟨xPre_blind, va_recv hK hP (ci := 5) (q0 := 0) rfl rfl, xPre_at hK hPc hDc n1 n2⟩ rfl rfl hl.1 rfl (lv_room (Nat.le_of_ble_eq_true rfl)) dX5_tellNeed_14 ⟨Nat.zero_le _, Nat.zero_le _⟩) (fun u H locs hw hP hD hS => ?_)
  obtain ⟨y2, rfl⟩ : ∃ z, z = u := ⟨_, rfl⟩
  try dsimp only at hw
  have hP : va_P (dC, dI) vwCl (wld_X5_tellNeed cI cJ cZ h_p0 ad_p0 p0_places p0_steps p0_coloured p0_closed y2 (upd p0_needs r1.toNatClampNeg a3) p0_takes) H := hP
  have hD : va_D A (wld_X5_tellNeed cI cJ cZ h_p0 ad_p0 p0_places p0_steps p0_coloured p0_closed y2 (upd p0_needs r1.toNatClampNeg a3) p0_takes) := hD
  exact x_vret (w1 := fun (u : (Nat → Int32) × (Nat → Int32)) => (wld_X5_tellNeed cI cJ cZ h_p0 ad_p0 p0_places p0_steps p0_coloured p0_closed (u.1) (u.2) p0_takes)) hx hb hr hlocks (y2, (upd p0_needs r1.toNatClampNeg a3)) hw hP hD hS dX5_tellNeed_17
abbrev wld_X5_tellClosed (cI cJ cZ : ClassId) (h_p0 : Nat) (ad_p0 : Nat → Nat) (p0_places : Int32) (p0_steps : Int32) (p0_coloured : Int32) (p0_closed : Nat → Int32) (p0_heeds : Nat → Int32) (p0_needs : Nat → Int32) (p0_takes : Nat → Int32) : va_W := [(h_p0, .inr (5, [.ref (ad_p0 0), .ref (ad_p0 1), .ref (ad_p0 2), .ref (ad_p0 3), .ref (ad_p0 4), .ref (ad_p0 5), .ref (ad_p0 6), .ref (ad_p0 7), .ref (ad_p0 8), .ref (ad_p0 9), .ref (ad_p0 10), .int p0_places, .int p0_steps, .int p0_coloured])), ((ad_p0 5), .inl (cI, 256, .inl p0_closed)), ((ad_p0 10), .inl (cI, 16, .inl p0_heeds)), ((ad_p0 4), .inl (cI, 256, .inl p0_needs)), ((ad_p0 2), .inl (cI, 256, .inl p0_takes))]
abbrev q_X5_tellClosed (dC : Nat → ClassId) (dI : Nat → Nat → Nat) (cI cJ cZ : ClassId) (h_p0 : Nat) (ad_p0 : Nat → Nat) (p0_places : Int32) (p0_steps : Int32) (p0_coloured : Int32) (p0_closed : Nat → Int32) (p0_heeds : Nat → Int32) (p0_needs : Nat → Int32) (p0_takes : Nat → Int32) (post : (Nat → Int32) → (Nat → Int32) → Prop) (A : Nat → Prop) : Array Value → State → Outcome → State → Prop := va_Qv (fun (u : (Nat → Int32) × (Nat → Int32)) => post (u.1) (u.2)) (fun (u : (Nat → Int32) × (Nat → Int32)) t => xPost (dC, dI) A (wld_X5_tellClosed cI cJ cZ h_p0 ad_p0 p0_places p0_steps p0_coloured (u.1) (u.2) p0_needs p0_takes) t) A
def w_X5_tellClosed (p0_closed : Nat → Int32) (p0_heeds : Nat → Int32) (p0_needs : Nat → Int32) (p0_takes : Nat → Int32) (a1 : Int32) (a2 : Int32) (a3 : Int32) (post : (Nat → Int32) → (Nat → Int32) → Prop) : Prop :=
  w_X9_crossing a1 a2 (fun r1 =>
  vp_in r1 256 ∧
  w_X5_heedIfAsked (upd p0_closed r1.toNatClampNeg a3) p0_heeds p0_needs p0_takes a1 a2 (fun y2 =>
  (post (upd p0_closed r1.toNatClampNeg a3) y2)))
set_option maxHeartbeats 4000000 in
set_option maxRecDepth 100000 in
theorem c_X5_tellClosed {l : Launch} {dC : Nat → ClassId} {dI : Nat → Nat → Nat} {sz : Nat} {cI cJ cZ : ClassId} {h_p0 : Nat} {ad_p0 : Nat → Nat} {p0_places : Int32} {p0_steps : Int32} {p0_coloured : Int32} {p0_closed : Nat → Int32} {p0_heeds : Nat → Int32} {p0_needs : Nat → Int32} {p0_takes : Nat → Int32} {a1 : Int32} {a2 : Int32} {a3 : Int32} {post : (Nat → Int32) → (Nat → Int32) → Prop} (hw : w_X5_tellClosed p0_closed p0_heeds p0_needs p0_takes a1 a2 a3 post) : Met l yX5_tellClosed wsX5_tellClosed ({ frames := 2, cells := 0, slots := 0, locals := 45 }) (va_Pc [.ref h_p0, .int a1, .int a2, .int a3] (xPre (dC, dI) cI cJ cZ (wld_X5_tellClosed cI cJ cZ h_p0 ad_p0 p0_places p0_steps p0_coloured p0_closed p0_heeds p0_needs p0_takes) sz)) (q_X5_tellClosed dC dI cI cJ cZ h_p0 ad_p0 p0_places p0_steps p0_coloured p0_closed p0_heeds p0_needs p0_takes post (va_A (wld_X5_tellClosed cI cJ cZ h_p0 ad_p0 p0_places p0_steps p0_coloured p0_closed p0_heeds p0_needs p0_takes) sz)) 0 0 (va_A (wld_X5_tellClosed cI cJ cZ h_p0 ad_p0 p0_places p0_steps p0_coloured p0_closed p0_heeds p0_needs p0_takes) sz) := by
  refine x_met (cc := cX5_tellClosed) (maxL := 4) (ret := none) (own := RX5) (Qc := fun A => (q_X5_tellClosed dC dI cI cJ cZ h_p0 ad_p0 p0_places p0_steps p0_coloured p0_closed p0_heeds p0_needs p0_takes post A)) (by decide) rfl rfl (Nat.le_of_ble_eq_true rfl) ?_
  intro p e s m args below meth c A ls E0 hP hD hS hl
  obtain ⟨hx, hb, hr, hml, hown, hts, hlocks, hK, hA, n1, n2⟩ := id E0
  have iX5 : ∀ w ∈ u_ws RX5 TX5 14, w ∈ wsX5_tellClosed := fun w h => List.mem_cons_of_mem _ (List.mem_append_right _ h)
  have hS0 := hS
  have hl : lv_has ls 4 [(0, .ref h_p0), (1, .int a1), (2, .int a2), (3, .int a3)] := hl
  unfold w_X5_tellClosed at hw
  obtain ⟨H, hH⟩ : ∃ H, H = s.heap := ⟨_, rfl⟩
  have hS : va_S A s.heap H [] := by rw [hH]; exact hS
  have hP : va_P (dC, dI) vwCl (wld_X5_tellClosed cI cJ cZ h_p0 ad_p0 p0_places p0_steps p0_coloured p0_closed p0_heeds p0_needs p0_takes) H := by rw [hH]; exact hP
  suffices hG : W p l e ({ frames := 2, cells := 0, slots := 0, locals := 45 }) s m args below meth c H [] 0 0 (MQ below (q_X5_tellClosed dC dI cI cJ cZ h_p0 ad_p0 p0_places p0_steps p0_coloured p0_closed p0_heeds p0_needs p0_takes post A) args s 0 0 A) (F0 m 0 ls []) by rw [hH] at hG; exact hG
  clear hH
  refine lv_aload_n hx hb dX5_tellClosed_0 rfl (lv_at hl 0 rfl) ?_
  refine va_get (D := (dC, dI)) (ci := 5) (v := .ref (ad_p0 5)) (C := RX5) (T := TX5) (N := 14) hx hb hts iX5 hown hK hP 0 rfl rfl 5 (by decide) (hts (.fieldLink RX5 27 "NetHouse$Net" "closed" "[I") (by decide +kernel)) (fun _ h9 => h9) rfl dX5_tellClosed_1 ?_
  refine lv_iload_n hx hb dX5_tellClosed_4 rfl (lv_at hl 1 rfl) ?_
  refine lv_iload_n hx hb dX5_tellClosed_5 rfl (lv_at hl 2 rfl) ?_
  obtain ⟨hPc, hDc⟩ := x_sub (wc := (wld_X9_crossing cI cJ cZ )) hP hD [] (n := 5) rfl rfl (by decide +kernel)
  refine x_calli (ws' := fun (u : Unit) => (wld_X5_tellClosed cI cJ cZ h_p0 ad_p0 p0_places p0_steps p0_coloured p0_closed p0_heeds p0_needs p0_takes)) hP hD hS hA [] [0, 1, 2, 3, 4] [0, 1, 2, 3, 4] (n := 5) (k := 0) rfl (fun _ => rfl) rfl (by decide +kernel) (fun _ => rfl) (va_runSN (As := [.int a1, .int a2]) (rest := [.ref (ad_p0 5)]) ⟨hx, hb, hml, hown, hts⟩ (c_X9_crossing (l := l) (dC := dC) (dI := dI) (cI := cI) (cJ := cJ) (cZ := cZ) (sz := H.size) hw) ⟨va_cnB (host := RX9) 2 hts gX5_tellClosed_X9_crossing_n55 rfl rfl rfl n1 (hts (.initialized RX9) (by decide +kernel)) (by decide +kernel) ⟨Nat.le_of_ble_eq_true rfl, Nat.le_of_ble_eq_true rfl⟩, hts (.static yX9_crossing) (by decide +kernel), trivial⟩ ⟨xPre_blind, xPre_at hK hPc hDc n1 n2⟩ rfl rfl hl.1 rfl (lv_room (Nat.le_of_ble_eq_true rfl)) dX5_tellClosed_6 ⟨Nat.zero_le _, Nat.zero_le _⟩) (fun r1 u H locs hw hP hD hS => ?_)
  try dsimp only at hw
  have hP : va_P (dC, dI) vwCl (wld_X5_tellClosed cI cJ cZ h_p0 ad_p0 p0_places p0_steps p0_coloured p0_closed p0_heeds p0_needs p0_takes) H := hP
  have hD : va_D A (wld_X5_tellClosed cI cJ cZ h_p0 ad_p0 p0_places p0_steps p0_coloured p0_closed p0_heeds p0_needs p0_takes) := hD
  refine lv_iload_n hx hb dX5_tellClosed_9 rfl (lv_at hl 3 rfl) ?_
  refine va_iast hx hb hK hP hD hS 1 0 rfl rfl hw.1 dX5_tellClosed_10 (fun H locs hP hD hS => ?_)
  have hw := hw.2
  have hP : va_P (dC, dI) vwCl (wld_X5_tellClosed cI cJ cZ h_p0 ad_p0 p0_places p0_steps p0_coloured (upd p0_closed r1.toNatClampNeg a3) p0_heeds p0_needs p0_takes) H := hP
  have hD : va_D A (wld_X5_tellClosed cI cJ cZ h_p0 ad_p0 p0_places p0_steps p0_coloured (upd p0_closed r1.toNatClampNeg a3) p0_heeds p0_needs p0_takes) := hD
  refine lv_aload_n hx hb dX5_tellClosed_11 rfl (lv_at hl 0 rfl) ?_
  refine lv_iload_n hx hb dX5_tellClosed_12 rfl (lv_at hl 1 rfl) ?_
  refine lv_iload_n hx hb dX5_tellClosed_13 rfl (lv_at hl 2 rfl) ?_
  obtain ⟨hPc, hDc⟩ := x_sub (wc := (wld_X5_heedIfAsked cI cJ cZ h_p0 ad_p0 p0_places p0_steps p0_coloured (upd p0_closed r1.toNatClampNeg a3) p0_heeds p0_needs p0_takes)) hP hD [0, 1, 2, 3, 4] (n := 5) rfl rfl (by decide +kernel)
  refine x_callv (ws' := fun (u : (Nat → Int32)) => (wld_X5_tellClosed cI cJ cZ h_p0 ad_p0 p0_places p0_steps p0_coloured (upd p0_closed r1.toNatClampNeg a3) u p0_needs p0_takes)) hP hD hS hA [0, 1, 2, 3, 4] [] [0, 1, 2, 3, 4] (n := 5) (k := 5) rfl (fun _ => rfl) rfl (by decide +kernel) (fun _ => rfl) (va_runV (As := [.int a1, .int a2]) (rest := []) ⟨hx, hb, hml, hown, hts⟩ (c_X5_heedIfAsked (l := l) (dC := dC) (dI := dI) (cI := cI) (cJ := cJ) (cZ := cZ) (sz := H.size) (h_p0 := h_p0) (ad_p0 := ad_p0) (p0_places := p0_places) (p0_steps := p0_steps) (p0_coloured := p0_coloured) (p0_closed := (upd p0_closed r1.toNatClampNeg a3)) (p0_heeds := p0_heeds) (p0_needs := p0_needs) (p0_takes := p0_takes) hw) (cwV 2 hts gX5_tellClosed_X5_heedIfAsked rfl rfl rfl (by decide +kernel) ⟨Nat.le_of_ble_eq_true rfl, Nat.le_of_ble_eq_true rfl⟩) ⟨xPre_blind, va_recv hK hP (ci := 5) (q0 := 0) rfl rfl, xPre_at hK hPc hDc n1 n2⟩ rfl rfl hl.1 rfl (lv_room (Nat.le_of_ble_eq_true rfl)) dX5_tellClosed_14 ⟨Nat.zero_le _, Nat.zero_le _⟩) (fun u H locs hw hP hD hS => ?_)
  obtain ⟨y2, rfl⟩ : ∃ z, z = u := ⟨_, rfl⟩
  try dsimp only at hw
  have hP : va_P (dC, dI) vwCl (wld_X5_tellClosed cI cJ cZ h_p0 ad_p0 p0_places p0_steps p0_coloured (upd p0_closed r1.toNatClampNeg a3) y2 p0_needs p0_takes) H := hP
  have hD : va_D A (wld_X5_tellClosed cI cJ cZ h_p0 ad_p0 p0_places p0_steps p0_coloured (upd p0_closed r1.toNatClampNeg a3) y2 p0_needs p0_takes) := hD
  exact x_vret (w1 := fun (u : (Nat → Int32) × (Nat → Int32)) => (wld_X5_tellClosed cI cJ cZ h_p0 ad_p0 p0_places p0_steps p0_coloured (u.1) (u.2) p0_needs p0_takes)) hx hb hr hlocks ((upd p0_closed r1.toNatClampNeg a3), y2) hw hP hD hS dX5_tellClosed_17
abbrev wld_X5_hasPlace (cI cJ cZ : ClassId) (h_p0 : Nat) (ad_p0 : Nat → Nat) (p0_places : Int32) (p0_steps : Int32) (p0_coloured : Int32) : va_W := [(h_p0, .inr (5, [.ref (ad_p0 0), .ref (ad_p0 1), .ref (ad_p0 2), .ref (ad_p0 3), .ref (ad_p0 4), .ref (ad_p0 5), .ref (ad_p0 6), .ref (ad_p0 7), .ref (ad_p0 8), .ref (ad_p0 9), .ref (ad_p0 10), .int p0_places, .int p0_steps, .int p0_coloured]))]
abbrev q_X5_hasPlace (dC : Nat → ClassId) (dI : Nat → Nat → Nat) (cI cJ cZ : ClassId) (h_p0 : Nat) (ad_p0 : Nat → Nat) (p0_places : Int32) (p0_steps : Int32) (p0_coloured : Int32) (post : Int32 → Prop) (A : Nat → Prop) : Array Value → State → Outcome → State → Prop := va_Qi (fun r (u : Unit) => post r ) (fun (u : Unit) t => xPost (dC, dI) A (wld_X5_hasPlace cI cJ cZ h_p0 ad_p0 p0_places p0_steps p0_coloured) t) A
def w_X5_hasPlace (p0_places : Int32) (a1 : Int32) (post : Int32 → Prop) : Prop :=
  (a1 < 0 →
    (post (0 : Int32))) ∧
  (¬ a1 < 0 →
    (p0_places ≤ a1 →
      (post (0 : Int32))) ∧
    (¬ p0_places ≤ a1 →
      (post (1 : Int32))))
set_option maxHeartbeats 4000000 in
set_option maxRecDepth 100000 in
theorem c_X5_hasPlace {l : Launch} {dC : Nat → ClassId} {dI : Nat → Nat → Nat} {sz : Nat} {cI cJ cZ : ClassId} {h_p0 : Nat} {ad_p0 : Nat → Nat} {p0_places : Int32} {p0_steps : Int32} {p0_coloured : Int32} {a1 : Int32} {post : Int32 → Prop} (hw : w_X5_hasPlace p0_places a1 post) : Met l yX5_hasPlace wsX5_hasPlace ({ frames := 0, cells := 0, slots := 0, locals := 0 }) (va_Pc [.ref h_p0, .int a1] (xPre (dC, dI) cI cJ cZ (wld_X5_hasPlace cI cJ cZ h_p0 ad_p0 p0_places p0_steps p0_coloured) sz)) (q_X5_hasPlace dC dI cI cJ cZ h_p0 ad_p0 p0_places p0_steps p0_coloured post (va_A (wld_X5_hasPlace cI cJ cZ h_p0 ad_p0 p0_places p0_steps p0_coloured) sz)) 0 0 (va_A (wld_X5_hasPlace cI cJ cZ h_p0 ad_p0 p0_places p0_steps p0_coloured) sz) := by
  refine x_met (cc := cX5_hasPlace) (maxL := 2) (ret := (some .boolean)) (own := RX5) (Qc := fun A => (q_X5_hasPlace dC dI cI cJ cZ h_p0 ad_p0 p0_places p0_steps p0_coloured post A)) (by decide) rfl rfl (Nat.le_of_ble_eq_true rfl) ?_
  intro p e s m args below meth c A ls E0 hP hD hS hl
  obtain ⟨hx, hb, hr, hml, hown, hts, hlocks, hK, hA, n1, n2⟩ := id E0
  have iX5 : ∀ w ∈ u_ws RX5 TX5 14, w ∈ wsX5_hasPlace := fun w h => List.mem_cons_of_mem _ (List.mem_append_right _ h)
  have hS0 := hS
  have hl : lv_has ls 2 [(0, .ref h_p0), (1, .int a1)] := hl
  unfold w_X5_hasPlace at hw
  obtain ⟨H, hH⟩ : ∃ H, H = s.heap := ⟨_, rfl⟩
  have hS : va_S A s.heap H [] := by rw [hH]; exact hS
  have hP : va_P (dC, dI) vwCl (wld_X5_hasPlace cI cJ cZ h_p0 ad_p0 p0_places p0_steps p0_coloured) H := by rw [hH]; exact hP
  suffices hG : W p l e ({ frames := 0, cells := 0, slots := 0, locals := 0 }) s m args below meth c H [] 0 0 (MQ below (q_X5_hasPlace dC dI cI cJ cZ h_p0 ad_p0 p0_places p0_steps p0_coloured post A) args s 0 0 A) (F0 m 0 ls []) by rw [hH] at hG; exact hG
  clear hH
  refine lv_iload_n hx hb dX5_hasPlace_0 rfl (lv_at hl 1 rfl) ?_
  refine lv_if_lt (tgt := 16) hx hb dX5_hasPlace_1 (by decide) (fun c1 => ?_) (fun c2 => ?_)
  · have hw := hw.1 c1
    refine lv_iconst (v := 0) hx hb dX5_hasPlace_16 (by decide) ?_
    exact x_zret (w1 := fun (u : Unit) => (wld_X5_hasPlace cI cJ cZ h_p0 ad_p0 p0_places p0_steps p0_coloured)) hx hb hr hlocks (by decide) () hw hP hD hS dX5_hasPlace_17
  · have hw := hw.2 c2
    refine lv_iload_n hx hb dX5_hasPlace_4 rfl (lv_at hl 1 rfl) ?_
    refine lv_aload_n hx hb dX5_hasPlace_5 rfl (lv_at hl 0 rfl) ?_
    refine va_get (D := (dC, dI)) (ci := 5) (v := .int p0_places) (C := RX5) (T := TX5) (N := 14) hx hb hts iX5 hown hK hP 0 rfl rfl 11 (by decide) (hts (.fieldLink RX5 45 "NetHouse$Net" "places" "I") (by decide +kernel)) (fun _ h9 => h9) rfl dX5_hasPlace_6 ?_
    refine lv_icmp_ge (tgt := 16) hx hb dX5_hasPlace_9 (by decide) (fun c3 => ?_) (fun c4 => ?_)
    · have hw := hw.1 c3
      refine lv_iconst (v := 0) hx hb dX5_hasPlace_16 (by decide) ?_
      exact x_zret (w1 := fun (u : Unit) => (wld_X5_hasPlace cI cJ cZ h_p0 ad_p0 p0_places p0_steps p0_coloured)) hx hb hr hlocks (by decide) () hw hP hD hS dX5_hasPlace_17
    · have hw := hw.2 c4
      refine lv_iconst (v := 1) hx hb dX5_hasPlace_12 (by decide) ?_
      refine lv_goto (tgt := 17) hx hb dX5_hasPlace_13 (by decide) ?_
      exact x_zret (w1 := fun (u : Unit) => (wld_X5_hasPlace cI cJ cZ h_p0 ad_p0 p0_places p0_steps p0_coloured)) hx hb hr hlocks (by decide) () hw hP hD hS dX5_hasPlace_17
abbrev wld_X5_hasStep (cI cJ cZ : ClassId) (h_p0 : Nat) (ad_p0 : Nat → Nat) (p0_places : Int32) (p0_steps : Int32) (p0_coloured : Int32) : va_W := [(h_p0, .inr (5, [.ref (ad_p0 0), .ref (ad_p0 1), .ref (ad_p0 2), .ref (ad_p0 3), .ref (ad_p0 4), .ref (ad_p0 5), .ref (ad_p0 6), .ref (ad_p0 7), .ref (ad_p0 8), .ref (ad_p0 9), .ref (ad_p0 10), .int p0_places, .int p0_steps, .int p0_coloured]))]
abbrev q_X5_hasStep (dC : Nat → ClassId) (dI : Nat → Nat → Nat) (cI cJ cZ : ClassId) (h_p0 : Nat) (ad_p0 : Nat → Nat) (p0_places : Int32) (p0_steps : Int32) (p0_coloured : Int32) (post : Int32 → Prop) (A : Nat → Prop) : Array Value → State → Outcome → State → Prop := va_Qi (fun r (u : Unit) => post r ) (fun (u : Unit) t => xPost (dC, dI) A (wld_X5_hasStep cI cJ cZ h_p0 ad_p0 p0_places p0_steps p0_coloured) t) A
def w_X5_hasStep (p0_steps : Int32) (a1 : Int32) (post : Int32 → Prop) : Prop :=
  (a1 < 0 →
    (post (0 : Int32))) ∧
  (¬ a1 < 0 →
    (p0_steps ≤ a1 →
      (post (0 : Int32))) ∧
    (¬ p0_steps ≤ a1 →
      (post (1 : Int32))))
set_option maxHeartbeats 4000000 in
set_option maxRecDepth 100000 in
theorem c_X5_hasStep {l : Launch} {dC : Nat → ClassId} {dI : Nat → Nat → Nat} {sz : Nat} {cI cJ cZ : ClassId} {h_p0 : Nat} {ad_p0 : Nat → Nat} {p0_places : Int32} {p0_steps : Int32} {p0_coloured : Int32} {a1 : Int32} {post : Int32 → Prop} (hw : w_X5_hasStep p0_steps a1 post) : Met l yX5_hasStep wsX5_hasStep ({ frames := 0, cells := 0, slots := 0, locals := 0 }) (va_Pc [.ref h_p0, .int a1] (xPre (dC, dI) cI cJ cZ (wld_X5_hasStep cI cJ cZ h_p0 ad_p0 p0_places p0_steps p0_coloured) sz)) (q_X5_hasStep dC dI cI cJ cZ h_p0 ad_p0 p0_places p0_steps p0_coloured post (va_A (wld_X5_hasStep cI cJ cZ h_p0 ad_p0 p0_places p0_steps p0_coloured) sz)) 0 0 (va_A (wld_X5_hasStep cI cJ cZ h_p0 ad_p0 p0_places p0_steps p0_coloured) sz) := by
  refine x_met (cc := cX5_hasStep) (maxL := 2) (ret := (some .boolean)) (own := RX5) (Qc := fun A => (q_X5_hasStep dC dI cI cJ cZ h_p0 ad_p0 p0_places p0_steps p0_coloured post A)) (by decide) rfl rfl (Nat.le_of_ble_eq_true rfl) ?_
  intro p e s m args below meth c A ls E0 hP hD hS hl
  obtain ⟨hx, hb, hr, hml, hown, hts, hlocks, hK, hA, n1, n2⟩ := id E0
  have iX5 : ∀ w ∈ u_ws RX5 TX5 14, w ∈ wsX5_hasStep := fun w h => List.mem_cons_of_mem _ (List.mem_append_right _ h)
  have hS0 := hS
  have hl : lv_has ls 2 [(0, .ref h_p0), (1, .int a1)] := hl
  unfold w_X5_hasStep at hw
  obtain ⟨H, hH⟩ : ∃ H, H = s.heap := ⟨_, rfl⟩
  have hS : va_S A s.heap H [] := by rw [hH]; exact hS
  have hP : va_P (dC, dI) vwCl (wld_X5_hasStep cI cJ cZ h_p0 ad_p0 p0_places p0_steps p0_coloured) H := by rw [hH]; exact hP
  suffices hG : W p l e ({ frames := 0, cells := 0, slots := 0, locals := 0 }) s m args below meth c H [] 0 0 (MQ below (q_X5_hasStep dC dI cI cJ cZ h_p0 ad_p0 p0_places p0_steps p0_coloured post A) args s 0 0 A) (F0 m 0 ls []) by rw [hH] at hG; exact hG
  clear hH
  refine lv_iload_n hx hb dX5_hasStep_0 rfl (lv_at hl 1 rfl) ?_
  refine lv_if_lt (tgt := 16) hx hb dX5_hasStep_1 (by decide) (fun c1 => ?_) (fun c2 => ?_)
  · have hw := hw.1 c1
    refine lv_iconst (v := 0) hx hb dX5_hasStep_16 (by decide) ?_
    exact x_zret (w1 := fun (u : Unit) => (wld_X5_hasStep cI cJ cZ h_p0 ad_p0 p0_places p0_steps p0_coloured)) hx hb hr hlocks (by decide) () hw hP hD hS dX5_hasStep_17
  · have hw := hw.2 c2
    refine lv_iload_n hx hb dX5_hasStep_4 rfl (lv_at hl 1 rfl) ?_
    refine lv_aload_n hx hb dX5_hasStep_5 rfl (lv_at hl 0 rfl) ?_
    refine va_get (D := (dC, dI)) (ci := 5) (v := .int p0_steps) (C := RX5) (T := TX5) (N := 14) hx hb hts iX5 hown hK hP 0 rfl rfl 12 (by decide) (hts (.fieldLink RX5 49 "NetHouse$Net" "steps" "I") (by decide +kernel)) (fun _ h9 => h9) rfl dX5_hasStep_6 ?_
    refine lv_icmp_ge (tgt := 16) hx hb dX5_hasStep_9 (by decide) (fun c3 => ?_) (fun c4 => ?_)
    · have hw := hw.1 c3
      refine lv_iconst (v := 0) hx hb dX5_hasStep_16 (by decide) ?_
      exact x_zret (w1 := fun (u : Unit) => (wld_X5_hasStep cI cJ cZ h_p0 ad_p0 p0_places p0_steps p0_coloured)) hx hb hr hlocks (by decide) () hw hP hD hS dX5_hasStep_17
    · have hw := hw.2 c4
      refine lv_iconst (v := 1) hx hb dX5_hasStep_12 (by decide) ?_
      refine lv_goto (tgt := 17) hx hb dX5_hasStep_13 (by decide) ?_
      exact x_zret (w1 := fun (u : Unit) => (wld_X5_hasStep cI cJ cZ h_p0 ad_p0 p0_places p0_steps p0_coloured)) hx hb hr hlocks (by decide) () hw hP hD hS dX5_hasStep_17
abbrev wld_X5_hasBoth (cI cJ cZ : ClassId) (h_p0 : Nat) (ad_p0 : Nat → Nat) (p0_places : Int32) (p0_steps : Int32) (p0_coloured : Int32) : va_W := [(h_p0, .inr (5, [.ref (ad_p0 0), .ref (ad_p0 1), .ref (ad_p0 2), .ref (ad_p0 3), .ref (ad_p0 4), .ref (ad_p0 5), .ref (ad_p0 6), .ref (ad_p0 7), .ref (ad_p0 8), .ref (ad_p0 9), .ref (ad_p0 10), .int p0_places, .int p0_steps, .int p0_coloured]))]
abbrev q_X5_hasBoth (dC : Nat → ClassId) (dI : Nat → Nat → Nat) (cI cJ cZ : ClassId) (h_p0 : Nat) (ad_p0 : Nat → Nat) (p0_places : Int32) (p0_steps : Int32) (p0_coloured : Int32) (post : Int32 → Prop) (A : Nat → Prop) : Array Value → State → Outcome → State → Prop := va_Qi (fun r (u : Unit) => post r ) (fun (u : Unit) t => xPost (dC, dI) A (wld_X5_hasBoth cI cJ cZ h_p0 ad_p0 p0_places p0_steps p0_coloured) t) A
def w_X5_hasBoth (p0_places : Int32) (p0_steps : Int32) (a1 : Int32) (a2 : Int32) (post : Int32 → Prop) : Prop :=
  w_X5_hasStep p0_steps a1 (fun r1 =>
  (r1 = 0 →
    (post (0 : Int32))) ∧
  (¬ r1 = 0 →
    w_X5_hasPlace p0_places a2 (fun r4 =>
    (r4 = 0 →
      (post (0 : Int32))) ∧
    (¬ r4 = 0 →
      (post (1 : Int32))))))
set_option maxHeartbeats 4000000 in
set_option maxRecDepth 100000 in
theorem c_X5_hasBoth {l : Launch} {dC : Nat → ClassId} {dI : Nat → Nat → Nat} {sz : Nat} {cI cJ cZ : ClassId} {h_p0 : Nat} {ad_p0 : Nat → Nat} {p0_places : Int32} {p0_steps : Int32} {p0_coloured : Int32} {a1 : Int32} {a2 : Int32} {post : Int32 → Prop} (hw : w_X5_hasBoth p0_places p0_steps a1 a2 post) : Met l yX5_hasBoth wsX5_hasBoth ({ frames := 1, cells := 0, slots := 0, locals := 21 }) (va_Pc [.ref h_p0, .int a1, .int a2] (xPre (dC, dI) cI cJ cZ (wld_X5_hasBoth cI cJ cZ h_p0 ad_p0 p0_places p0_steps p0_coloured) sz)) (q_X5_hasBoth dC dI cI cJ cZ h_p0 ad_p0 p0_places p0_steps p0_coloured post (va_A (wld_X5_hasBoth cI cJ cZ h_p0 ad_p0 p0_places p0_steps p0_coloured) sz)) 0 0 (va_A (wld_X5_hasBoth cI cJ cZ h_p0 ad_p0 p0_places p0_steps p0_coloured) sz) := by
  refine x_met (cc := cX5_hasBoth) (maxL := 3) (ret := (some .boolean)) (own := RX5) (Qc := fun A => (q_X5_hasBoth dC dI cI cJ cZ h_p0 ad_p0 p0_places p0_steps p0_coloured post A)) (by decide) rfl rfl (Nat.le_of_ble_eq_true rfl) ?_
  intro p e s m args below meth c A ls E0 hP hD hS hl
  obtain ⟨hx, hb, hr, hml, hown, hts, hlocks, hK, hA, n1, n2⟩ := id E0
  have iX5 : ∀ w ∈ u_ws RX5 TX5 14, w ∈ wsX5_hasBoth := fun w h => List.mem_cons_of_mem _ (List.mem_append_right _ h)
  have hS0 := hS
  have hl : lv_has ls 3 [(0, .ref h_p0), (1, .int a1), (2, .int a2)] := hl
  unfold w_X5_hasBoth at hw
  obtain ⟨H, hH⟩ : ∃ H, H = s.heap := ⟨_, rfl⟩
  have hS : va_S A s.heap H [] := by rw [hH]; exact hS
  have hP : va_P (dC, dI) vwCl (wld_X5_hasBoth cI cJ cZ h_p0 ad_p0 p0_places p0_steps p0_coloured) H := by rw [hH]; exact hP
  suffices hG : W p l e ({ frames := 1, cells := 0, slots := 0, locals := 21 }) s m args below meth c H [] 0 0 (MQ below (q_X5_hasBoth dC dI cI cJ cZ h_p0 ad_p0 p0_places p0_steps p0_coloured post A) args s 0 0 A) (F0 m 0 ls []) by rw [hH] at hG; exact hG
  clear hH
  refine lv_aload_n hx hb dX5_hasBoth_0 rfl (lv_at hl 0 rfl) ?_
  refine lv_iload_n hx hb dX5_hasBoth_1 rfl (lv_at hl 1 rfl) ?_
  obtain ⟨hPc, hDc⟩ := x_sub (wc := (wld_X5_hasStep cI cJ cZ h_p0 ad_p0 p0_places p0_steps p0_coloured)) hP hD [0] (n := 1) rfl rfl (by decide +kernel)
  refine x_calli (ws' := fun (u : Unit) => (wld_X5_hasBoth cI cJ cZ h_p0 ad_p0 p0_places p0_steps p0_coloured)) hP hD hS hA [0] [] [0] (n := 1) (k := 1) rfl (fun _ => rfl) rfl (by decide +kernel) (fun _ => rfl) (va_runV (As := [.int a1]) (rest := []) ⟨hx, hb, hml, hown, hts⟩ (c_X5_hasStep (l := l) (dC := dC) (dI := dI) (cI := cI) (cJ := cJ) (cZ := cZ) (sz := H.size) (h_p0 := h_p0) (ad_p0 := ad_p0) (p0_places := p0_places) (p0_steps := p0_steps) (p0_coloured := p0_coloured) hw) (cwV 1 hts gX5_hasBoth_X5_hasStep rfl rfl rfl (by decide +kernel) ⟨Nat.le_of_ble_eq_true rfl, Nat.le_of_ble_eq_true rfl⟩) ⟨xPre_blind, va_recv hK hP (ci := 5) (q0 := 0) rfl rfl, xPre_at hK hPc hDc n1 n2⟩ rfl rfl hl.1 rfl (lv_room (Nat.le_of_ble_eq_true rfl)) dX5_hasBoth_2 ⟨Nat.zero_le _, Nat.zero_le _⟩) (fun r1 u H locs hw hP hD hS => ?_)
  try dsimp only at hw
  have hP : va_P (dC, dI) vwCl (wld_X5_hasBoth cI cJ cZ h_p0 ad_p0 p0_places p0_steps p0_coloured) H := hP
  have hD : va_D A (wld_X5_hasBoth cI cJ cZ h_p0 ad_p0 p0_places p0_steps p0_coloured) := hD
  refine lv_if_eq (tgt := 20) hx hb dX5_hasBoth_5 (by decide) (fun c2 => ?_) (fun c3 => ?_)
  · have hw := hw.1 c2
    refine lv_iconst (v := 0) hx hb dX5_hasBoth_20 (by decide) ?_
    exact x_zret (w1 := fun (u : Unit) => (wld_X5_hasBoth cI cJ cZ h_p0 ad_p0 p0_places p0_steps p0_coloured)) hx hb hr hlocks (by decide) () hw hP hD hS dX5_hasBoth_21
  · have hw := hw.2 c3
    refine lv_aload_n hx hb dX5_hasBoth_8 rfl (lv_at hl 0 rfl) ?_
    refine lv_iload_n hx hb dX5_hasBoth_9 rfl (lv_at hl 2 rfl) ?_
    obtain ⟨hPc, hDc⟩ := x_sub (wc := (wld_X5_hasPlace cI cJ cZ h_p0 ad_p0 p0_places p0_steps p0_coloured)) hP hD [0] (n := 1) rfl rfl (by decide +kernel)
    refine x_calli (ws' := fun (u : Unit) => (wld_X5_hasBoth cI cJ cZ h_p0 ad_p0 p0_places p0_steps p0_coloured)) hP hD hS hA [0] [] [0] (n := 1) (k := 1) rfl (fun _ => rfl) rfl (by decide +kernel) (fun _ => rfl) (va_runV (As := [.int a2]) (rest := []) ⟨hx, hb, hml, hown, hts⟩ (c_X5_hasPlace (l := l) (dC := dC) (dI := dI) (cI := cI) (cJ := cJ) (cZ := cZ) (sz := H.size) (h_p0 := h_p0) (ad_p0 := ad_p0) (p0_places := p0_places) (p0_steps := p0_steps) (p0_coloured := p0_coloured) hw) (cwV 1 hts gX5_hasBoth_X5_hasPlace rfl rfl rfl (by decide +kernel) ⟨Nat.le_of_ble_eq_true rfl, Nat.le_of_ble_eq_true rfl⟩) ⟨xPre_blind, va_recv hK hP (ci := 5) (q0 := 0) rfl rfl, xPre_at hK hPc hDc n1 n2⟩ rfl rfl hl.1 rfl (lv_room (Nat.le_of_ble_eq_true rfl)) dX5_hasBoth_10 ⟨Nat.zero_le _, Nat.zero_le _⟩) (fun r4 u H locs hw hP hD hS => ?_)
    try dsimp only at hw
    have hP : va_P (dC, dI) vwCl (wld_X5_hasBoth cI cJ cZ h_p0 ad_p0 p0_places p0_steps p0_coloured) H := hP
    have hD : va_D A (wld_X5_hasBoth cI cJ cZ h_p0 ad_p0 p0_places p0_steps p0_coloured) := hD
    refine lv_if_eq (tgt := 20) hx hb dX5_hasBoth_13 (by decide) (fun c5 => ?_) (fun c6 => ?_)
    · have hw := hw.1 c5
      refine lv_iconst (v := 0) hx hb dX5_hasBoth_20 (by decide) ?_
      exact x_zret (w1 := fun (u : Unit) => (wld_X5_hasBoth cI cJ cZ h_p0 ad_p0 p0_places p0_steps p0_coloured)) hx hb hr hlocks (by decide) () hw hP hD hS dX5_hasBoth_21
    · have hw := hw.2 c6
      refine lv_iconst (v := 1) hx hb dX5_hasBoth_16 (by decide) ?_
      refine lv_goto (tgt := 21) hx hb dX5_hasBoth_17 (by decide) ?_
      exact x_zret (w1 := fun (u : Unit) => (wld_X5_hasBoth cI cJ cZ h_p0 ad_p0 p0_places p0_steps p0_coloured)) hx hb hr hlocks (by decide) () hw hP hD hS dX5_hasBoth_21
abbrev wld_X5_hasPlaces (cI cJ cZ : ClassId) (h_p0 : Nat) (ad_p0 : Nat → Nat) (p0_places : Int32) (p0_steps : Int32) (p0_coloured : Int32) : va_W := [(h_p0, .inr (5, [.ref (ad_p0 0), .ref (ad_p0 1), .ref (ad_p0 2), .ref (ad_p0 3), .ref (ad_p0 4), .ref (ad_p0 5), .ref (ad_p0 6), .ref (ad_p0 7), .ref (ad_p0 8), .ref (ad_p0 9), .ref (ad_p0 10), .int p0_places, .int p0_steps, .int p0_coloured]))]
abbrev q_X5_hasPlaces (dC : Nat → ClassId) (dI : Nat → Nat → Nat) (cI cJ cZ : ClassId) (h_p0 : Nat) (ad_p0 : Nat → Nat) (p0_places : Int32) (p0_steps : Int32) (p0_coloured : Int32) (post : Int32 → Prop) (A : Nat → Prop) : Array Value → State → Outcome → State → Prop := va_Qi (fun r (u : Unit) => post r ) (fun (u : Unit) t => xPost (dC, dI) A (wld_X5_hasPlaces cI cJ cZ h_p0 ad_p0 p0_places p0_steps p0_coloured) t) A
def w_X5_hasPlaces (p0_places : Int32) (a1 : Int32) (post : Int32 → Prop) : Prop :=
  (a1 < 0 →
    (post (0 : Int32))) ∧
  (¬ a1 < 0 →
    (((1 : Int32) <<< (p0_places &&& 31)) ≤ a1 →
      (post (0 : Int32))) ∧
    (¬ ((1 : Int32) <<< (p0_places &&& 31)) ≤ a1 →
      (post (1 : Int32))))
set_option maxHeartbeats 4000000 in
set_option maxRecDepth 100000 in
theorem c_X5_hasPlaces {l : Launch} {dC : Nat → ClassId} {dI : Nat → Nat → Nat} {sz : Nat} {cI cJ cZ : ClassId} {h_p0 : Nat} {ad_p0 : Nat → Nat} {p0_places : Int32} {p0_steps : Int32} {p0_coloured : Int32} {a1 : Int32} {post : Int32 → Prop} (hw : w_X5_hasPlaces p0_places a1 post) : Met l yX5_hasPlaces wsX5_hasPlaces ({ frames := 0, cells := 0, slots := 0, locals := 0 }) (va_Pc [.ref h_p0, .int a1] (xPre (dC, dI) cI cJ cZ (wld_X5_hasPlaces cI cJ cZ h_p0 ad_p0 p0_places p0_steps p0_coloured) sz)) (q_X5_hasPlaces dC dI cI cJ cZ h_p0 ad_p0 p0_places p0_steps p0_coloured post (va_A (wld_X5_hasPlaces cI cJ cZ h_p0 ad_p0 p0_places p0_steps p0_coloured) sz)) 0 0 (va_A (wld_X5_hasPlaces cI cJ cZ h_p0 ad_p0 p0_places p0_steps p0_coloured) sz) := by
  refine x_met (cc := cX5_hasPlaces) (maxL := 2) (ret := (some .boolean)) (own := RX5) (Qc := fun A => (q_X5_hasPlaces dC dI cI cJ cZ h_p0 ad_p0 p0_places p0_steps p0_coloured post A)) (by decide) rfl rfl (Nat.le_of_ble_eq_true rfl) ?_
  intro p e s m args below meth c A ls E0 hP hD hS hl
  obtain ⟨hx, hb, hr, hml, hown, hts, hlocks, hK, hA, n1, n2⟩ := id E0
  have iX5 : ∀ w ∈ u_ws RX5 TX5 14, w ∈ wsX5_hasPlaces := fun w h => List.mem_cons_of_mem _ (List.mem_append_right _ h)
  have hS0 := hS
  have hl : lv_has ls 2 [(0, .ref h_p0), (1, .int a1)] := hl
  unfold w_X5_hasPlaces at hw
  obtain ⟨H, hH⟩ : ∃ H, H = s.heap := ⟨_, rfl⟩
  have hS : va_S A s.heap H [] := by rw [hH]; exact hS
  have hP : va_P (dC, dI) vwCl (wld_X5_hasPlaces cI cJ cZ h_p0 ad_p0 p0_places p0_steps p0_coloured) H := by rw [hH]; exact hP
  suffices hG : W p l e ({ frames := 0, cells := 0, slots := 0, locals := 0 }) s m args below meth c H [] 0 0 (MQ below (q_X5_hasPlaces dC dI cI cJ cZ h_p0 ad_p0 p0_places p0_steps p0_coloured post A) args s 0 0 A) (F0 m 0 ls []) by rw [hH] at hG; exact hG
  clear hH
  refine lv_iload_n hx hb dX5_hasPlaces_0 rfl (lv_at hl 1 rfl) ?_
  refine lv_if_lt (tgt := 18) hx hb dX5_hasPlaces_1 (by decide) (fun c1 => ?_) (fun c2 => ?_)
  · have hw := hw.1 c1
    refine lv_iconst (v := 0) hx hb dX5_hasPlaces_18 (by decide) ?_
    exact x_zret (w1 := fun (u : Unit) => (wld_X5_hasPlaces cI cJ cZ h_p0 ad_p0 p0_places p0_steps p0_coloured)) hx hb hr hlocks (by decide) () hw hP hD hS dX5_hasPlaces_19
  · have hw := hw.2 c2
    refine lv_iload_n hx hb dX5_hasPlaces_4 rfl (lv_at hl 1 rfl) ?_
    refine lv_iconst (v := 1) hx hb dX5_hasPlaces_5 (by decide) ?_
    refine lv_aload_n hx hb dX5_hasPlaces_6 rfl (lv_at hl 0 rfl) ?_
    refine va_get (D := (dC, dI)) (ci := 5) (v := .int p0_places) (C := RX5) (T := TX5) (N := 14) hx hb hts iX5 hown hK hP 0 rfl rfl 11 (by decide) (hts (.fieldLink RX5 45 "NetHouse$Net" "places" "I") (by decide +kernel)) (fun _ h9 => h9) rfl dX5_hasPlaces_7 ?_
    refine lv_ishl hx hb dX5_hasPlaces_10 ?_
    refine lv_icmp_ge (tgt := 18) hx hb dX5_hasPlaces_11 (by decide) (fun c3 => ?_) (fun c4 => ?_)
    · have hw := hw.1 c3
      refine lv_iconst (v := 0) hx hb dX5_hasPlaces_18 (by decide) ?_
      exact x_zret (w1 := fun (u : Unit) => (wld_X5_hasPlaces cI cJ cZ h_p0 ad_p0 p0_places p0_steps p0_coloured)) hx hb hr hlocks (by decide) () hw hP hD hS dX5_hasPlaces_19
    · have hw := hw.2 c4
      refine lv_iconst (v := 1) hx hb dX5_hasPlaces_14 (by decide) ?_
      refine lv_goto (tgt := 19) hx hb dX5_hasPlaces_15 (by decide) ?_
      exact x_zret (w1 := fun (u : Unit) => (wld_X5_hasPlaces cI cJ cZ h_p0 ad_p0 p0_places p0_steps p0_coloured)) hx hb hr hlocks (by decide) () hw hP hD hS dX5_hasPlaces_19
abbrev wld_X5_hasStepAbove (cI cJ cZ : ClassId) (h_p0 : Nat) (ad_p0 : Nat → Nat) (p0_places : Int32) (p0_steps : Int32) (p0_coloured : Int32) (p0_stepKinds : Nat → Int32) : va_W := [(h_p0, .inr (5, [.ref (ad_p0 0), .ref (ad_p0 1), .ref (ad_p0 2), .ref (ad_p0 3), .ref (ad_p0 4), .ref (ad_p0 5), .ref (ad_p0 6), .ref (ad_p0 7), .ref (ad_p0 8), .ref (ad_p0 9), .ref (ad_p0 10), .int p0_places, .int p0_steps, .int p0_coloured])), ((ad_p0 1), .inl (cI, 16, .inl p0_stepKinds))]
abbrev q_X5_hasStepAbove (dC : Nat → ClassId) (dI : Nat → Nat → Nat) (cI cJ cZ : ClassId) (h_p0 : Nat) (ad_p0 : Nat → Nat) (p0_places : Int32) (p0_steps : Int32) (p0_coloured : Int32) (p0_stepKinds : Nat → Int32) (post : Int32 → Prop) (A : Nat → Prop) : Array Value → State → Outcome → State → Prop := va_Qi (fun r (u : Unit) => post r ) (fun (u : Unit) t => xPost (dC, dI) A (wld_X5_hasStepAbove cI cJ cZ h_p0 ad_p0 p0_places p0_steps p0_coloured p0_stepKinds) t) A
def w_X5_hasStepAbove_L2b (v1 : Int32) (p0_steps : Int32) (p0_stepKinds : Nat → Int32) (post : Int32 → Prop) (K : (Int32) → Prop) (rec : (Int32) → Prop) (v2 : Int32) : Prop :=
    (p0_steps ≤ v2 →
      K v2) ∧
    (¬ p0_steps ≤ v2 →
      vp_in v2 16 ∧
      ((p0_stepKinds v2.toNatClampNeg) ≤ v1 →
        ∀ x5 : Int32, x5 = v2 + (1 : Int32) →
        rec x5) ∧
      (¬ (p0_stepKinds v2.toNatClampNeg) ≤ v1 →
        (post (1 : Int32))))
def w_X5_hasStepAbove_L2 (v1 : Int32) (p0_steps : Int32) (p0_stepKinds : Nat → Int32) (post : Int32 → Prop) (K : (Int32) → Prop) : Nat → (Int32) → Prop
  | 0, _ => False
  | n + 1, v2 => w_X5_hasStepAbove_L2b v1 p0_steps p0_stepKinds post K (w_X5_hasStepAbove_L2 v1 p0_steps p0_stepKinds post K n) v2
def w_X5_hasStepAbove (p0_steps : Int32) (p0_stepKinds : Nat → Int32) (a1 : Int32) (post : Int32 → Prop) : Prop :=
  ∃ n : Nat, w_X5_hasStepAbove_L2 a1 p0_steps p0_stepKinds post (fun v7 =>
      (post (0 : Int32))) n (0 : Int32)
set_option maxHeartbeats 4000000 in
set_option maxRecDepth 100000 in
theorem c_X5_hasStepAbove_L2 {p : Program} {l : Launch} {e : Env} {s : State} {m : MethodId} {args : Array Value} {below : List Frame} {meth : Method} {c : Code} {dC : Nat → ClassId} {dI : Nat → Nat → Nat} {A : Nat → Prop} {cI cJ cZ : ClassId} {h_p0 : Nat} {ad_p0 : Nat → Nat} {p0_places : Int32} {p0_steps : Int32} {p0_coloured : Int32} {p0_stepKinds : Nat → Int32} {v1 : Int32}  {post : Int32 → Prop} {K : (Int32) → Prop} (E0 : xEnv p s m args meth c cX5_hasStepAbove (some .boolean) 3 RX5 wsX5_hasStepAbove (dC, dI) cI cJ cZ A) (hk : ∀ (v2 : Int32) (H : Heap) (locs : List Loc) (ls : Array Slot), K v2 → va_P (dC, dI) vwCl (wld_X5_hasStepAbove cI cJ cZ h_p0 ad_p0 p0_places p0_steps p0_coloured p0_stepKinds) H → va_D A (wld_X5_hasStepAbove cI cJ cZ h_p0 ad_p0 p0_places p0_steps p0_coloured p0_stepKinds) → va_S A s.heap H locs → lv_has ls 3 [] → W p l e ({ frames := 0, cells := 0, slots := 0, locals := 0 }) s m args below meth c H locs 0 0 (MQ below (q_X5_hasStepAbove dC dI cI cJ cZ h_p0 ad_p0 p0_places p0_steps p0_coloured p0_stepKinds post A) args s 0 0 A) (F0 m 28 ls [])) : ∀ (n : Nat) (v2 : Int32), w_X5_hasStepAbove_L2 v1 p0_steps p0_stepKinds post K n v2 → ∀ (H : Heap) (locs : List Loc) (ls : Array Slot), va_P (dC, dI) vwCl (wld_X5_hasStepAbove cI cJ cZ h_p0 ad_p0 p0_places p0_steps p0_coloured p0_stepKinds) H → va_D A (wld_X5_hasStepAbove cI cJ cZ h_p0 ad_p0 p0_places p0_steps p0_coloured p0_stepKinds) → va_S A s.heap H locs → lv_has ls 3 [(0, .ref h_p0), (1, .int v1), (2, .int v2)] → W p l e ({ frames := 0, cells := 0, slots := 0, locals := 0 }) s m args below meth c H locs 0 0 (MQ below (q_X5_hasStepAbove dC dI cI cJ cZ h_p0 ad_p0 p0_places p0_steps p0_coloured p0_stepKinds post A) args s 0 0 A) (F0 m 2 ls []) := by
  obtain ⟨hx, hb, hr, hml, hown, hts, hlocks, hK, hA, n1, n2⟩ := id E0
  have iX5 : ∀ w ∈ u_ws RX5 TX5 14, w ∈ wsX5_hasStepAbove := fun w h => List.mem_cons_of_mem _ (List.mem_append_right _ h)
  intro n
  induction n with
  | zero => intro v2 hw; exact hw.elim
  | succ n ih =>
    intro v2 hw H locs ls hP hD hS hl
    have hw : w_X5_hasStepAbove_L2b v1 p0_steps p0_stepKinds post K (w_X5_hasStepAbove_L2 v1 p0_steps p0_stepKinds post K n) v2 := hw
    unfold w_X5_hasStepAbove_L2b at hw
    refine lv_iload_n hx hb dX5_hasStepAbove_2 rfl (lv_at hl 2 rfl) ?_
    refine lv_aload_n hx hb dX5_hasStepAbove_3 rfl (lv_at hl 0 rfl) ?_
    refine va_get (D := (dC, dI)) (ci := 5) (v := .int p0_steps) (C := RX5) (T := TX5) (N := 14) hx hb hts iX5 hown hK hP 0 rfl rfl 12 (by decide) (hts (.fieldLink RX5 49 "NetHouse$Net" "steps" "I") (by decide +kernel)) (fun _ h9 => h9) rfl dX5_hasStepAbove_4 ?_
    refine lv_icmp_ge (tgt := 28) hx hb dX5_hasStepAbove_7 (by decide) (fun c1 => ?_) (fun c2 => ?_)
    · have hw := hw.1 c1
      exact hk _ _ _ _ hw hP hD hS (lv_sub hl [] rfl)
    · have hw := hw.2 c2
      refine lv_aload_n hx hb dX5_hasStepAbove_10 rfl (lv_at hl 0 rfl) ?_
      refine va_get (D := (dC, dI)) (ci := 5) (v := .ref (ad_p0 1)) (C := RX5) (T := TX5) (N := 14) hx hb hts iX5 hown hK hP 0 rfl rfl 1 (by decide) (hts (.fieldLink RX5 15 "NetHouse$Net" "stepKinds" "[I") (by decide +kernel)) (fun _ h9 => h9) rfl dX5_hasStepAbove_11 ?_
      refine lv_iload_n hx hb dX5_hasStepAbove_14 rfl (lv_at hl 2 rfl) ?_
      refine va_iald hx hb hK hP 1 0 rfl rfl hw.1 dX5_hasStepAbove_15 ?_
      have hw := hw.2
      refine lv_iload_n hx hb dX5_hasStepAbove_16 rfl (lv_at hl 1 rfl) ?_
      refine lv_icmp_le (tgt := 22) hx hb dX5_hasStepAbove_17 (by decide) (fun c3 => ?_) (fun c4 => ?_)
      · have hw := hw.1 c3
        obtain ⟨x5, ex5⟩ : ∃ y : Int32, y = v2 + (1 : Int32) := ⟨_, rfl⟩
        have hw := hw x5 ex5
        refine lv_iinc (v := x5) (lv' := [(2, .int x5), (0, .ref h_p0), (1, .int v1)]) hx hb dX5_hasStepAbove_22 hl (k := 2) rfl (by rw [ex5]; rfl) (by decide) rfl (fun ls hl => ?_)
        refine lv_goto (tgt := 2) hx hb dX5_hasStepAbove_25 (by decide) ?_
        exact ih _ hw _ _ _ hP hD hS (lv_sub hl [1, 2, 0] rfl)
      · have hw := hw.2 c4
        refine lv_iconst (v := 1) hx hb dX5_hasStepAbove_20 (by decide) ?_
        exact x_zret (w1 := fun (u : Unit) => (wld_X5_hasStepAbove cI cJ cZ h_p0 ad_p0 p0_places p0_steps p0_coloured p0_stepKinds)) hx hb hr hlocks (by decide) () hw hP hD hS dX5_hasStepAbove_21
set_option maxHeartbeats 4000000 in
set_option maxRecDepth 100000 in
theorem c_X5_hasStepAbove {l : Launch} {dC : Nat → ClassId} {dI : Nat → Nat → Nat} {sz : Nat} {cI cJ cZ : ClassId} {h_p0 : Nat} {ad_p0 : Nat → Nat} {p0_places : Int32} {p0_steps : Int32} {p0_coloured : Int32} {p0_stepKinds : Nat → Int32} {a1 : Int32} {post : Int32 → Prop} (hw : w_X5_hasStepAbove p0_steps p0_stepKinds a1 post) : Met l yX5_hasStepAbove wsX5_hasStepAbove ({ frames := 0, cells := 0, slots := 0, locals := 0 }) (va_Pc [.ref h_p0, .int a1] (xPre (dC, dI) cI cJ cZ (wld_X5_hasStepAbove cI cJ cZ h_p0 ad_p0 p0_places p0_steps p0_coloured p0_stepKinds) sz)) (q_X5_hasStepAbove dC dI cI cJ cZ h_p0 ad_p0 p0_places p0_steps p0_coloured p0_stepKinds post (va_A (wld_X5_hasStepAbove cI cJ cZ h_p0 ad_p0 p0_places p0_steps p0_coloured p0_stepKinds) sz)) 0 0 (va_A (wld_X5_hasStepAbove cI cJ cZ h_p0 ad_p0 p0_places p0_steps p0_coloured p0_stepKinds) sz) := by
  refine x_met (cc := cX5_hasStepAbove) (maxL := 3) (ret := (some .boolean)) (own := RX5) (Qc := fun A => (q_X5_hasStepAbove dC dI cI cJ cZ h_p0 ad_p0 p0_places p0_steps p0_coloured p0_stepKinds post A)) (by decide) rfl rfl (Nat.le_of_ble_eq_true rfl) ?_
  intro p e s m args below meth c A ls E0 hP hD hS hl
  obtain ⟨hx, hb, hr, hml, hown, hts, hlocks, hK, hA, n1, n2⟩ := id E0
  have iX5 : ∀ w ∈ u_ws RX5 TX5 14, w ∈ wsX5_hasStepAbove := fun w h => List.mem_cons_of_mem _ (List.mem_append_right _ h)
  have hS0 := hS
  have hl : lv_has ls 3 [(0, .ref h_p0), (1, .int a1)] := hl
  unfold w_X5_hasStepAbove at hw
  obtain ⟨H, hH⟩ : ∃ H, H = s.heap := ⟨_, rfl⟩
  have hS : va_S A s.heap H [] := by rw [hH]; exact hS
  have hP : va_P (dC, dI) vwCl (wld_X5_hasStepAbove cI cJ cZ h_p0 ad_p0 p0_places p0_steps p0_coloured p0_stepKinds) H := by rw [hH]; exact hP
  suffices hG : W p l e ({ frames := 0, cells := 0, slots := 0, locals := 0 }) s m args below meth c H [] 0 0 (MQ below (q_X5_hasStepAbove dC dI cI cJ cZ h_p0 ad_p0 p0_places p0_steps p0_coloured p0_stepKinds post A) args s 0 0 A) (F0 m 0 ls []) by rw [hH] at hG; exact hG
  clear hH
  refine lv_iconst (v := 0) hx hb dX5_hasStepAbove_0 (by decide) ?_
  refine lv_istore_n (lv' := [(2, .int (0 : Int32)), (0, .ref h_p0), (1, .int a1)]) hx hb dX5_hasStepAbove_1 rfl hl (by decide) rfl (fun ls hl => ?_)
  obtain ⟨n6, hw⟩ := hw
  refine c_X5_hasStepAbove_L2 (l := l)  E0 ?_ n6 _ hw _ _ _ hP hD hS (lv_sub hl [1, 2, 0] rfl)
  · intro v7 H locs ls hw hP hD hS hl
    have hP : va_P (dC, dI) vwCl (wld_X5_hasStepAbove cI cJ cZ h_p0 ad_p0 p0_places p0_steps p0_coloured p0_stepKinds) H := hP
    have hD : va_D A (wld_X5_hasStepAbove cI cJ cZ h_p0 ad_p0 p0_places p0_steps p0_coloured p0_stepKinds) := hD
    refine lv_iconst (v := 0) hx hb dX5_hasStepAbove_28 (by decide) ?_
    exact x_zret (w1 := fun (u : Unit) => (wld_X5_hasStepAbove cI cJ cZ h_p0 ad_p0 p0_places p0_steps p0_coloured p0_stepKinds)) hx hb hr hlocks (by decide) () hw hP hD hS dX5_hasStepAbove_29
abbrev wld_X5_goes (cI cJ cZ : ClassId) (h_p0 : Nat) (h_p1 : Nat) (ad_p0 : Nat → Nat) (ad_p1 : Nat → Nat) (p0_places : Int32) (p0_steps : Int32) (p0_coloured : Int32) (p0_closed : Nat → Int32) (p0_heeds : Nat → Int32) (p0_needs : Nat → Int32) (p0_placeKinds : Nat → Int32) (p0_stepKinds : Nat → Int32) (p0_takes : Nat → Int32) (p0_wants : Nat → Int32) (p1_many : Nat → Int32) (p1_things : Nat → Int64) : va_W := [(h_p0, .inr (5, [.ref (ad_p0 0), .ref (ad_p0 1), .ref (ad_p0 2), .ref (ad_p0 3), .ref (ad_p0 4), .ref (ad_p0 5), .ref (ad_p0 6), .ref (ad_p0 7), .ref (ad_p0 8), .ref (ad_p0 9), .ref (ad_p0 10), .int p0_places, .int p0_steps, .int p0_coloured])), ((ad_p0 5), .inl (cI, 256, .inl p0_closed)), ((ad_p0 10), .inl (cI, 16, .inl p0_heeds)), ((ad_p0 4), .inl (cI, 256, .inl p0_needs)), ((ad_p0 0), .inl (cI, 16, .inl p0_placeKinds)), ((ad_p0 1), .inl (cI, 16, .inl p0_stepKinds)), ((ad_p0 2), .inl (cI, 256, .inl p0_takes)), ((ad_p0 6), .inl (cI, 256, .inl p0_wants)), (h_p1, .inr (3, [.ref (ad_p1 0), .ref (ad_p1 1)])), ((ad_p1 0), .inl (cI, 16, .inl p1_many)), ((ad_p1 1), .inl (cJ, 16, .inr (.inl p1_things)))]
abbrev q_X5_goes (dC : Nat → ClassId) (dI : Nat → Nat → Nat) (cI cJ cZ : ClassId) (h_p0 : Nat) (h_p1 : Nat) (ad_p0 : Nat → Nat) (ad_p1 : Nat → Nat) (p0_places : Int32) (p0_steps : Int32) (p0_coloured : Int32) (p0_closed : Nat → Int32) (p0_heeds : Nat → Int32) (p0_needs : Nat → Int32) (p0_placeKinds : Nat → Int32) (p0_stepKinds : Nat → Int32) (p0_takes : Nat → Int32) (p0_wants : Nat → Int32) (p1_many : Nat → Int32) (p1_things : Nat → Int64) (post : Int32 → Prop) (A : Nat → Prop) : Array Value → State → Outcome → State → Prop := va_Qi (fun r (u : Unit) => post r ) (fun (u : Unit) t => xPost (dC, dI) A (wld_X5_goes cI cJ cZ h_p0 h_p1 ad_p0 ad_p1 p0_places p0_steps p0_coloured p0_closed p0_heeds p0_needs p0_placeKinds p0_stepKinds p0_takes p0_wants p1_many p1_things) t) A
def w_X5_goes (p0_places : Int32) (p0_steps : Int32) (p0_closed : Nat → Int32) (p0_heeds : Nat → Int32) (p0_needs : Nat → Int32) (p0_placeKinds : Nat → Int32) (p0_stepKinds : Nat → Int32) (p0_takes : Nat → Int32) (p0_wants : Nat → Int32) (p1_many : Nat → Int32) (p1_things : Nat → Int64) (a2 : Int32) (post : Int32 → Prop) : Prop :=
  w_X5_allows p0_places p0_closed p0_heeds p0_needs p0_placeKinds p0_takes p0_wants p1_many p1_things a2 (fun r1 =>
  (r1 = 0 →
    (post (0 : Int32))) ∧
  (¬ r1 = 0 →
    vp_in a2 16 ∧
    ((p0_stepKinds a2.toNatClampNeg) = (3 : Int32) →
      (post (1 : Int32))) ∧
    (¬ (p0_stepKinds a2.toNatClampNeg) = (3 : Int32) →
      w_X5_urges p0_places p0_steps p0_closed p0_heeds p0_needs p0_placeKinds p0_stepKinds p0_takes p0_wants p1_many p1_things (fun r6 =>
      (¬ r6 = 0 →
        (post (0 : Int32))) ∧
      (r6 = 0 →
        (post (1 : Int32)))))))
set_option maxHeartbeats 4000000 in
set_option maxRecDepth 100000 in
theorem c_X5_goes {l : Launch} {dC : Nat → ClassId} {dI : Nat → Nat → Nat} {sz : Nat} {cI cJ cZ : ClassId} {h_p0 : Nat} {h_p1 : Nat} {ad_p0 : Nat → Nat} {ad_p1 : Nat → Nat} {p0_places : Int32} {p0_steps : Int32} {p0_coloured : Int32} {p0_closed : Nat → Int32} {p0_heeds : Nat → Int32} {p0_needs : Nat → Int32} {p0_placeKinds : Nat → Int32} {p0_stepKinds : Nat → Int32} {p0_takes : Nat → Int32} {p0_wants : Nat → Int32} {p1_many : Nat → Int32} {p1_things : Nat → Int64} {a2 : Int32} {post : Int32 → Prop} (hw : w_X5_goes p0_places p0_steps p0_closed p0_heeds p0_needs p0_placeKinds p0_stepKinds p0_takes p0_wants p1_many p1_things a2 post) : Met l yX5_goes wsX5_goes ({ frames := 4, cells := 0, slots := 0, locals := 94 }) (va_Pc [.ref h_p0, .ref h_p1, .int a2] (xPre (dC, dI) cI cJ cZ (wld_X5_goes cI cJ cZ h_p0 h_p1 ad_p0 ad_p1 p0_places p0_steps p0_coloured p0_closed p0_heeds p0_needs p0_placeKinds p0_stepKinds p0_takes p0_wants p1_many p1_things) sz)) (q_X5_goes dC dI cI cJ cZ h_p0 h_p1 ad_p0 ad_p1 p0_places p0_steps p0_coloured p0_closed p0_heeds p0_needs p0_placeKinds p0_stepKinds p0_takes p0_wants p1_many p1_things post (va_A (wld_X5_goes cI cJ cZ h_p0 h_p1 ad_p0 ad_p1 p0_places p0_steps p0_coloured p0_closed p0_heeds p0_needs p0_placeKinds p0_stepKinds p0_takes p0_wants p1_many p1_things) sz)) 0 0 (va_A (wld_X5_goes cI cJ cZ h_p0 h_p1 ad_p0 ad_p1 p0_places p0_steps p0_coloured p0_closed p0_heeds p0_needs p0_placeKinds p0_stepKinds p0_takes p0_wants p1_many p1_things) sz) := by
  refine x_met (cc := cX5_goes) (maxL := 3) (ret := (some .boolean)) (own := RX5) (Qc := fun A => (q_X5_goes dC dI cI cJ cZ h_p0 h_p1 ad_p0 ad_p1 p0_places p0_steps p0_coloured p0_closed p0_heeds p0_needs p0_placeKinds p0_stepKinds p0_takes p0_wants p1_many p1_things post A)) (by decide) rfl rfl (Nat.le_of_ble_eq_true rfl) ?_
  intro p e s m args below meth c A ls E0 hP hD hS hl
  obtain ⟨hx, hb, hr, hml, hown, hts, hlocks, hK, hA, n1, n2⟩ := id E0
  have iX3 : ∀ w ∈ u_ws RX3 TX3 2, w ∈ wsX5_goes := fun w h => List.mem_cons_of_mem _ (List.mem_append_right _ h)
  have iX5 : ∀ w ∈ u_ws RX5 TX5 14, w ∈ wsX5_goes := fun w h => List.mem_cons_of_mem _ (List.mem_append_left _ (List.mem_append_right _ h))
  have hS0 := hS
  have hl : lv_has ls 3 [(0, .ref h_p0), (1, .ref h_p1), (2, .int a2)] := hl
  unfold w_X5_goes at hw
  obtain ⟨H, hH⟩ : ∃ H, H = s.heap := ⟨_, rfl⟩
  have hS : va_S A s.heap H [] := by rw [hH]; exact hS
  have hP : va_P (dC, dI) vwCl (wld_X5_goes cI cJ cZ h_p0 h_p1 ad_p0 ad_p1 p0_places p0_steps p0_coloured p0_closed p0_heeds p0_needs p0_placeKinds p0_stepKinds p0_takes p0_wants p1_many p1_things) H := by rw [hH]; exact hP
  suffices hG : W p l e ({ frames := 4, cells := 0, slots := 0, locals := 94 }) s m args below meth c H [] 0 0 (MQ below (q_X5_goes dC dI cI cJ cZ h_p0 h_p1 ad_p0 ad_p1 p0_places p0_steps p0_coloured p0_closed p0_heeds p0_needs p0_placeKinds p0_stepKinds p0_takes p0_wants p1_many p1_things post A) args s 0 0 A) (F0 m 0 ls []) by rw [hH] at hG; exact hG
  clear hH
  refine lv_aload_n hx hb dX5_goes_0 rfl (lv_at hl 0 rfl) ?_
  refine lv_aload_n hx hb dX5_goes_1 rfl (lv_at hl 1 rfl) ?_
  refine lv_iload_n hx hb dX5_goes_2 rfl (lv_at hl 2 rfl) ?_
  obtain ⟨hPc, hDc⟩ := x_sub (wc := (wld_X5_allows cI cJ cZ h_p0 h_p1 ad_p0 ad_p1 p0_places p0_steps p0_coloured p0_closed p0_heeds p0_needs p0_placeKinds p0_takes p0_wants p1_many p1_things)) hP hD [0, 1, 2, 3, 4, 6, 7, 8, 9, 10] (n := 11) rfl rfl (by decide +kernel)
  refine x_calli (ws' := fun (u : Unit) => (wld_X5_goes cI cJ cZ h_p0 h_p1 ad_p0 ad_p1 p0_places p0_steps p0_coloured p0_closed p0_heeds p0_needs p0_placeKinds p0_stepKinds p0_takes p0_wants p1_many p1_things)) hP hD hS hA [0, 1, 2, 3, 4, 6, 7, 8, 9, 10] [5] [1, 2, 3, 4, 5, 0, 6, 7, 8, 9, 10] (n := 11) (k := 10) rfl (fun _ => rfl) rfl (by decide +kernel) (fun _ => rfl) (va_runV (As := [.ref h_p1, .int a2]) (rest := []) ⟨hx, hb, hml, hown, hts⟩ (c_X5_allows (l := l) (dC := dC) (dI := dI) (cI := cI) (cJ := cJ) (cZ := cZ) (sz := H.size) (h_p0 := h_p0) (h_p1 := h_p1) (ad_p0 := ad_p0) (ad_p1 := ad_p1) (p0_places := p0_places) (p0_steps := p0_steps) (p0_coloured := p0_coloured) (p0_closed := p0_closed) (p0_heeds := p0_heeds) (p0_needs := p0_needs) (p0_placeKinds := p0_placeKinds) (p0_takes := p0_takes) (p0_wants := p0_wants) (p1_many := p1_many) (p1_things := p1_things) hw) (cwV 2 hts gX5_goes_X5_allows rfl rfl rfl (by decide +kernel) ⟨Nat.le_of_ble_eq_true rfl, Nat.le_of_ble_eq_true rfl⟩) ⟨xPre_blind, va_recv hK hP (ci := 5) (q0 := 0) rfl rfl, xPre_at hK hPc hDc n1 n2⟩ rfl rfl hl.1 rfl (lv_room (Nat.le_of_ble_eq_true rfl)) dX5_goes_3 ⟨Nat.zero_le _, Nat.zero_le _⟩) (fun r1 u H locs hw hP hD hS => ?_)
  try dsimp only at hw
  have hP : va_P (dC, dI) vwCl (wld_X5_goes cI cJ cZ h_p0 h_p1 ad_p0 ad_p1 p0_places p0_steps p0_coloured p0_closed p0_heeds p0_needs p0_placeKinds p0_stepKinds p0_takes p0_wants p1_many p1_things) H := hP
  have hD : va_D A (wld_X5_goes cI cJ cZ h_p0 h_p1 ad_p0 ad_p1 p0_places p0_steps p0_coloured p0_closed p0_heeds p0_needs p0_placeKinds p0_stepKinds p0_takes p0_wants p1_many p1_things) := hD
  refine lv_if_eq (tgt := 31) hx hb dX5_goes_6 (by decide) (fun c2 => ?_) (fun c3 => ?_)
  · have hw := hw.1 c2
    refine lv_iconst (v := 0) hx hb dX5_goes_31 (by decide) ?_
    exact x_zret (w1 := fun (u : Unit) => (wld_X5_goes cI cJ cZ h_p0 h_p1 ad_p0 ad_p1 p0_places p0_steps p0_coloured p0_closed p0_heeds p0_needs p0_placeKinds p0_stepKinds p0_takes p0_wants p1_many p1_things)) hx hb hr hlocks (by decide) () hw hP hD hS dX5_goes_32
  · have hw := hw.2 c3
    refine lv_aload_n hx hb dX5_goes_9 rfl (lv_at hl 0 rfl) ?_
    refine va_get (D := (dC, dI)) (ci := 5) (v := .ref (ad_p0 1)) (C := RX5) (T := TX5) (N := 14) hx hb hts iX5 hown hK hP 0 rfl rfl 1 (by decide) (hts (.fieldLink RX5 15 "NetHouse$Net" "stepKinds" "[I") (by decide +kernel)) (fun _ h9 => h9) rfl dX5_goes_10 ?_
    refine lv_iload_n hx hb dX5_goes_13 rfl (lv_at hl 2 rfl) ?_
    refine va_iald hx hb hK hP 5 0 rfl rfl hw.1 dX5_goes_14 ?_
    have hw := hw.2
    refine lv_iconst (v := 3) hx hb dX5_goes_15 (by decide) ?_
    refine lv_icmp_eq (tgt := 27) hx hb dX5_goes_16 (by decide) (fun c4 => ?_) (fun c5 => ?_)
    · have hw := hw.1 c4
      refine lv_iconst (v := 1) hx hb dX5_goes_27 (by decide) ?_
      refine lv_goto (tgt := 32) hx hb dX5_goes_28 (by decide) ?_
      exact x_zret (w1 := fun (u : Unit) => (wld_X5_goes cI cJ cZ h_p0 h_p1 ad_p0 ad_p1 p0_places p0_steps p0_coloured p0_closed p0_heeds p0_needs p0_placeKinds p0_stepKinds p0_takes p0_wants p1_many p1_things)) hx hb hr hlocks (by decide) () hw hP hD hS dX5_goes_32
    · have hw := hw.2 c5
      refine lv_aload_n hx hb dX5_goes_19 rfl (lv_at hl 0 rfl) ?_
      refine lv_aload_n hx hb dX5_goes_20 rfl (lv_at hl 1 rfl) ?_
      obtain ⟨hPc, hDc⟩ := x_sub (wc := (wld_X5_urges cI cJ cZ h_p0 h_p1 ad_p0 ad_p1 p0_places p0_steps p0_coloured p0_closed p0_heeds p0_needs p0_placeKinds p0_stepKinds p0_takes p0_wants p1_many p1_things)) hP hD [0, 1, 2, 3, 4, 5, 6, 7, 8, 9, 10] (n := 11) rfl rfl (by decide +kernel)
      refine x_calli (ws' := fun (u : Unit) => (wld_X5_goes cI cJ cZ h_p0 h_p1 ad_p0 ad_p1 p0_places p0_steps p0_coloured p0_closed p0_heeds p0_needs p0_placeKinds p0_stepKinds p0_takes p0_wants p1_many p1_things)) hP hD hS hA [0, 1, 2, 3, 4, 5, 6, 7, 8, 9, 10] [] [0, 1, 2, 3, 4, 5, 6, 7, 8, 9, 10] (n := 11) (k := 11) rfl (fun _ => rfl) rfl (by decide +kernel) (fun _ => rfl) (va_runV (As := [.ref h_p1]) (rest := []) ⟨hx, hb, hml, hown, hts⟩ (c_X5_urges (l := l) (dC := dC) (dI := dI) (cI := cI) (cJ := cJ) (cZ := cZ) (sz := H.size) (h_p0 := h_p0) (h_p1 := h_p1) (ad_p0 := ad_p0) (ad_p1 := ad_p1) (p0_places := p0_places) (p0_steps := p0_steps) (p0_coloured := p0_coloured) (p0_closed := p0_closed) (p0_heeds := p0_heeds) (p0_needs := p0_needs) (p0_placeKinds := p0_placeKinds) (p0_stepKinds := p0_stepKinds) (p0_takes := p0_takes) (p0_wants := p0_wants) (p1_many := p1_many) (p1_things := p1_things) hw) (cwV 1 hts gX5_goes_X5_urges rfl rfl rfl (by decide +kernel) ⟨Nat.le_of_ble_eq_true rfl, Nat.le_of_ble_eq_true rfl⟩) ⟨xPre_blind, va_recv hK hP (ci := 5) (q0 := 0) rfl rfl, xPre_at hK hPc hDc n1 n2⟩ rfl rfl hl.1 rfl (lv_room (Nat.le_of_ble_eq_true rfl)) dX5_goes_21 ⟨Nat.zero_le _, Nat.zero_le _⟩) (fun r6 u H locs hw hP hD hS => ?_)
      try dsimp only at hw
      have hP : va_P (dC, dI) vwCl (wld_X5_goes cI cJ cZ h_p0 h_p1 ad_p0 ad_p1 p0_places p0_steps p0_coloured p0_closed p0_heeds p0_needs p0_placeKinds p0_stepKinds p0_takes p0_wants p1_many p1_things) H := hP
      have hD : va_D A (wld_X5_goes cI cJ cZ h_p0 h_p1 ad_p0 ad_p1 p0_places p0_steps p0_coloured p0_closed p0_heeds p0_needs p0_placeKinds p0_stepKinds p0_takes p0_wants p1_many p1_things) := hD
      refine lv_if_ne (tgt := 31) hx hb dX5_goes_24 (by decide) (fun c7 => ?_) (fun c8 => ?_)
      · have hw := hw.1 c7
        refine lv_iconst (v := 0) hx hb dX5_goes_31 (by decide) ?_
        exact x_zret (w1 := fun (u : Unit) => (wld_X5_goes cI cJ cZ h_p0 h_p1 ad_p0 ad_p1 p0_places p0_steps p0_coloured p0_closed p0_heeds p0_needs p0_placeKinds p0_stepKinds p0_takes p0_wants p1_many p1_things)) hx hb hr hlocks (by decide) () hw hP hD hS dX5_goes_32
      · have hw := hw.2 c8
        refine lv_iconst (v := 1) hx hb dX5_goes_27 (by decide) ?_
        refine lv_goto (tgt := 32) hx hb dX5_goes_28 (by decide) ?_
        exact x_zret (w1 := fun (u : Unit) => (wld_X5_goes cI cJ cZ h_p0 h_p1 ad_p0 ad_p1 p0_places p0_steps p0_coloured p0_closed p0_heeds p0_needs p0_placeKinds p0_stepKinds p0_takes p0_wants p1_many p1_things)) hx hb hr hlocks (by decide) () hw hP hD hS dX5_goes_32
abbrev wld_X5_leastGoing (cI cJ cZ : ClassId) (h_p0 : Nat) (h_p1 : Nat) (ad_p0 : Nat → Nat) (ad_p1 : Nat → Nat) (p0_places : Int32) (p0_steps : Int32) (p0_coloured : Int32) (p0_closed : Nat → Int32) (p0_heeds : Nat → Int32) (p0_needs : Nat → Int32) (p0_placeKinds : Nat → Int32) (p0_stepKinds : Nat → Int32) (p0_takes : Nat → Int32) (p0_wants : Nat → Int32) (p1_many : Nat → Int32) (p1_things : Nat → Int64) : va_W := [(h_p0, .inr (5, [.ref (ad_p0 0), .ref (ad_p0 1), .ref (ad_p0 2), .ref (ad_p0 3), .ref (ad_p0 4), .ref (ad_p0 5), .ref (ad_p0 6), .ref (ad_p0 7), .ref (ad_p0 8), .ref (ad_p0 9), .ref (ad_p0 10), .int p0_places, .int p0_steps, .int p0_coloured])), ((ad_p0 5), .inl (cI, 256, .inl p0_closed)), ((ad_p0 10), .inl (cI, 16, .inl p0_heeds)), ((ad_p0 4), .inl (cI, 256, .inl p0_needs)), ((ad_p0 0), .inl (cI, 16, .inl p0_placeKinds)), ((ad_p0 1), .inl (cI, 16, .inl p0_stepKinds)), ((ad_p0 2), .inl (cI, 256, .inl p0_takes)), ((ad_p0 6), .inl (cI, 256, .inl p0_wants)), (h_p1, .inr (3, [.ref (ad_p1 0), .ref (ad_p1 1)])), ((ad_p1 0), .inl (cI, 16, .inl p1_many)), ((ad_p1 1), .inl (cJ, 16, .inr (.inl p1_things)))]
abbrev q_X5_leastGoing (dC : Nat → ClassId) (dI : Nat → Nat → Nat) (cI cJ cZ : ClassId) (h_p0 : Nat) (h_p1 : Nat) (ad_p0 : Nat → Nat) (ad_p1 : Nat → Nat) (p0_places : Int32) (p0_steps : Int32) (p0_coloured : Int32) (p0_closed : Nat → Int32) (p0_heeds : Nat → Int32) (p0_needs : Nat → Int32) (p0_placeKinds : Nat → Int32) (p0_stepKinds : Nat → Int32) (p0_takes : Nat → Int32) (p0_wants : Nat → Int32) (p1_many : Nat → Int32) (p1_things : Nat → Int64) (post : Int32 → Prop) (A : Nat → Prop) : Array Value → State → Outcome → State → Prop := va_Qi (fun r (u : Unit) => post r ) (fun (u : Unit) t => xPost (dC, dI) A (wld_X5_leastGoing cI cJ cZ h_p0 h_p1 ad_p0 ad_p1 p0_places p0_steps p0_coloured p0_closed p0_heeds p0_needs p0_placeKinds p0_stepKinds p0_takes p0_wants p1_many p1_things) t) A
def w_X5_leastGoing_L8b (v2 : Int32) (p0_places : Int32) (p0_steps : Int32) (p0_closed : Nat → Int32) (p0_heeds : Nat → Int32) (p0_needs : Nat → Int32) (p0_placeKinds : Nat → Int32) (p0_stepKinds : Nat → Int32) (p0_takes : Nat → Int32) (p0_wants : Nat → Int32) (p1_many : Nat → Int32) (p1_things : Nat → Int64) (post : Int32 → Prop) (K : (Int32) → Prop) (rec : (Int32) → Prop) (v3 : Int32) : Prop :=
    (p0_steps ≤ v3 →
      K v3) ∧
    (¬ p0_steps ≤ v3 →
      w_X5_goesWhere p0_places p0_closed p0_heeds p0_needs p0_placeKinds p0_stepKinds p0_takes p0_wants p1_many p1_things v2 v3 (fun r4 =>
      (r4 = 0 →
        ∀ x7 : Int32, x7 = v3 + (1 : Int32) →
        rec x7) ∧
      (¬ r4 = 0 →
        (post v3))))
def w_X5_leastGoing_L8 (v2 : Int32) (p0_places : Int32) (p0_steps : Int32) (p0_closed : Nat → Int32) (p0_heeds : Nat → Int32) (p0_needs : Nat → Int32) (p0_placeKinds : Nat → Int32) (p0_stepKinds : Nat → Int32) (p0_takes : Nat → Int32) (p0_wants : Nat → Int32) (p1_many : Nat → Int32) (p1_things : Nat → Int64) (post : Int32 → Prop) (K : (Int32) → Prop) : Nat → (Int32) → Prop
  | 0, _ => False
  | n + 1, v3 => w_X5_leastGoing_L8b v2 p0_places p0_steps p0_closed p0_heeds p0_needs p0_placeKinds p0_stepKinds p0_takes p0_wants p1_many p1_things post K (w_X5_leastGoing_L8 v2 p0_places p0_steps p0_closed p0_heeds p0_needs p0_placeKinds p0_stepKinds p0_takes p0_wants p1_many p1_things post K n) v3
def w_X5_leastGoing (p0_places : Int32) (p0_steps : Int32) (p0_closed : Nat → Int32) (p0_heeds : Nat → Int32) (p0_needs : Nat → Int32) (p0_placeKinds : Nat → Int32) (p0_stepKinds : Nat → Int32) (p0_takes : Nat → Int32) (p0_wants : Nat → Int32) (p1_many : Nat → Int32) (p1_things : Nat → Int64) (post : Int32 → Prop) : Prop :=
  w_X5_urges p0_places p0_steps p0_closed p0_heeds p0_needs p0_placeKinds p0_stepKinds p0_takes p0_wants p1_many p1_things (fun r1 =>
  ∃ n : Nat, w_X5_leastGoing_L8 r1 p0_places p0_steps p0_closed p0_heeds p0_needs p0_placeKinds p0_stepKinds p0_takes p0_wants p1_many p1_things post (fun v9 =>
      (post (-1 : Int32))) n (0 : Int32))
set_option maxHeartbeats 4000000 in
set_option maxRecDepth 100000 in
theorem c_X5_leastGoing_L8 {p : Program} {l : Launch} {e : Env} {s : State} {m : MethodId} {args : Array Value} {below : List Frame} {meth : Method} {c : Code} {dC : Nat → ClassId} {dI : Nat → Nat → Nat} {A : Nat → Prop} {cI cJ cZ : ClassId} {h_p0 : Nat} {h_p1 : Nat} {ad_p0 : Nat → Nat} {ad_p1 : Nat → Nat} {p0_places : Int32} {p0_steps : Int32} {p0_coloured : Int32} {p0_closed : Nat → Int32} {p0_heeds : Nat → Int32} {p0_needs : Nat → Int32} {p0_placeKinds : Nat → Int32} {p0_stepKinds : Nat → Int32} {p0_takes : Nat → Int32} {p0_wants : Nat → Int32} {p1_many : Nat → Int32} {p1_things : Nat → Int64} {v2 : Int32}  {post : Int32 → Prop} {K : (Int32) → Prop} (E0 : xEnv p s m args meth c cX5_leastGoing (some .int) 4 RX5 wsX5_leastGoing (dC, dI) cI cJ cZ A) (hk : ∀ (v3 : Int32) (H : Heap) (locs : List Loc) (ls : Array Slot), K v3 → va_P (dC, dI) vwCl (wld_X5_leastGoing cI cJ cZ h_p0 h_p1 ad_p0 ad_p1 p0_places p0_steps p0_coloured p0_closed p0_heeds p0_needs p0_placeKinds p0_stepKinds p0_takes p0_wants p1_many p1_things) H → va_D A (wld_X5_leastGoing cI cJ cZ h_p0 h_p1 ad_p0 ad_p1 p0_places p0_steps p0_coloured p0_closed p0_heeds p0_needs p0_placeKinds p0_stepKinds p0_takes p0_wants p1_many p1_things) → va_S A s.heap H locs → lv_has ls 4 [] → W p l e ({ frames := 4, cells := 0, slots := 0, locals := 95 }) s m args below meth c H locs 0 0 (MQ below (q_X5_leastGoing dC dI cI cJ cZ h_p0 h_p1 ad_p0 ad_p1 p0_places p0_steps p0_coloured p0_closed p0_heeds p0_needs p0_placeKinds p0_stepKinds p0_takes p0_wants p1_many p1_things post A) args s 0 0 A) (F0 m 34 ls [])) : ∀ (n : Nat) (v3 : Int32), w_X5_leastGoing_L8 v2 p0_places p0_steps p0_closed p0_heeds p0_needs p0_placeKinds p0_stepKinds p0_takes p0_wants p1_many p1_things post K n v3 → ∀ (H : Heap) (locs : List Loc) (ls : Array Slot), va_P (dC, dI) vwCl (wld_X5_leastGoing cI cJ cZ h_p0 h_p1 ad_p0 ad_p1 p0_places p0_steps p0_coloured p0_closed p0_heeds p0_needs p0_placeKinds p0_stepKinds p0_takes p0_wants p1_many p1_things) H → va_D A (wld_X5_leastGoing cI cJ cZ h_p0 h_p1 ad_p0 ad_p1 p0_places p0_steps p0_coloured p0_closed p0_heeds p0_needs p0_placeKinds p0_stepKinds p0_takes p0_wants p1_many p1_things) → va_S A s.heap H locs → lv_has ls 4 [(0, .ref h_p0), (1, .ref h_p1), (2, .int v2), (3, .int v3)] → W p l e ({ frames := 4, cells := 0, slots := 0, locals := 95 }) s m args below meth c H locs 0 0 (MQ below (q_X5_leastGoing dC dI cI cJ cZ h_p0 h_p1 ad_p0 ad_p1 p0_places p0_steps p0_coloured p0_closed p0_heeds p0_needs p0_placeKinds p0_stepKinds p0_takes p0_wants p1_many p1_things post A) args s 0 0 A) (F0 m 8 ls []) := by
  obtain ⟨hx, hb, hr, hml, hown, hts, hlocks, hK, hA, n1, n2⟩ := id E0
  have iX3 : ∀ w ∈ u_ws RX3 TX3 2, w ∈ wsX5_leastGoing := fun w h => List.mem_cons_of_mem _ (List.mem_append_right _ h)
  have iX5 : ∀ w ∈ u_ws RX5 TX5 14, w ∈ wsX5_leastGoing := fun w h => List.mem_cons_of_mem _ (List.mem_append_left _ (List.mem_append_right _ h))
  intro n
  induction n with
  | zero => intro v3 hw; exact hw.elim
  | succ n ih =>
    intro v3 hw H locs ls hP hD hS hl
    have hw : w_X5_leastGoing_L8b v2 p0_places p0_steps p0_closed p0_heeds p0_needs p0_placeKinds p0_stepKinds p0_takes p0_wants p1_many p1_things post K (w_X5_leastGoing_L8 v2 p0_places p0_steps p0_closed p0_heeds p0_needs p0_placeKinds p0_stepKinds p0_takes p0_wants p1_many p1_things post K n) v3 := hw
    unfold w_X5_leastGoing_L8b at hw
    refine lv_iload_n hx hb dX5_leastGoing_8 rfl (lv_at hl 3 rfl) ?_
    refine lv_aload_n hx hb dX5_leastGoing_9 rfl (lv_at hl 0 rfl) ?_
    refine va_get (D := (dC, dI)) (ci := 5) (v := .int p0_steps) (C := RX5) (T := TX5) (N := 14) hx hb hts iX5 hown hK hP 0 rfl rfl 12 (by decide) (hts (.fieldLink RX5 49 "NetHouse$Net" "steps" "I") (by decide +kernel)) (fun _ h9 => h9) rfl dX5_leastGoing_10 ?_
    refine lv_icmp_ge (tgt := 34) hx hb dX5_leastGoing_13 (by decide) (fun c2 => ?_) (fun c3 => ?_)
    · have hw := hw.1 c2
      exact hk _ _ _ _ hw hP hD hS (lv_sub hl [] rfl)
    · have hw := hw.2 c3
      refine lv_aload_n hx hb dX5_leastGoing_16 rfl (lv_at hl 0 rfl) ?_
      refine lv_iload_n hx hb dX5_leastGoing_17 rfl (lv_at hl 2 rfl) ?_
      refine lv_aload_n hx hb dX5_leastGoing_18 rfl (lv_at hl 1 rfl) ?_
      refine lv_iload_n hx hb dX5_leastGoing_19 rfl (lv_at hl 3 rfl) ?_
      obtain ⟨hPc, hDc⟩ := x_sub (wc := (wld_X5_goesWhere cI cJ cZ h_p0 h_p1 ad_p0 ad_p1 p0_places p0_steps p0_coloured p0_closed p0_heeds p0_needs p0_placeKinds p0_stepKinds p0_takes p0_wants p1_many p1_things)) hP hD [0, 1, 2, 3, 4, 5, 6, 7, 8, 9, 10] (n := 11) rfl rfl (by decide +kernel)
      refine x_calli (ws' := fun (u : Unit) => (wld_X5_leastGoing cI cJ cZ h_p0 h_p1 ad_p0 ad_p1 p0_places p0_steps p0_coloured p0_closed p0_heeds p0_needs p0_placeKinds p0_stepKinds p0_takes p0_wants p1_many p1_things)) hP hD hS hA [0, 1, 2, 3, 4, 5, 6, 7, 8, 9, 10] [] [0, 1, 2, 3, 4, 5, 6, 7, 8, 9, 10] (n := 11) (k := 11) rfl (fun _ => rfl) rfl (by decide +kernel) (fun _ => rfl) (va_runV (As := [.int v2, .ref h_p1, .int v3]) (rest := []) ⟨hx, hb, hml, hown, hts⟩ (c_X5_goesWhere (l := l) (dC := dC) (dI := dI) (cI := cI) (cJ := cJ) (cZ := cZ) (sz := H.size) (h_p0 := h_p0) (h_p2 := h_p1) (ad_p0 := ad_p0) (ad_p2 := ad_p1) (p0_places := p0_places) (p0_steps := p0_steps) (p0_coloured := p0_coloured) (p0_closed := p0_closed) (p0_heeds := p0_heeds) (p0_needs := p0_needs) (p0_placeKinds := p0_placeKinds) (p0_stepKinds := p0_stepKinds) (p0_takes := p0_takes) (p0_wants := p0_wants) (p2_many := p1_many) (p2_things := p1_things) hw) (cwV 3 hts gX5_leastGoing_X5_goesWhere rfl rfl rfl (by decide +kernel) ⟨Nat.le_of_ble_eq_true rfl, Nat.le_of_ble_eq_true rfl⟩) ⟨xPre_blind, va_recv hK hP (ci := 5) (q0 := 0) rfl rfl, xPre_at hK hPc hDc n1 n2⟩ rfl rfl hl.1 rfl (lv_room (Nat.le_of_ble_eq_true rfl)) dX5_leastGoing_20 ⟨Nat.zero_le _, Nat.zero_le _⟩) (fun r4 u H locs hw hP hD hS => ?_)
      try dsimp only at hw
      have hP : va_P (dC, dI) vwCl (wld_X5_leastGoing cI cJ cZ h_p0 h_p1 ad_p0 ad_p1 p0_places p0_steps p0_coloured p0_closed p0_heeds p0_needs p0_placeKinds p0_stepKinds p0_takes p0_wants p1_many p1_things) H := hP
      have hD : va_D A (wld_X5_leastGoing cI cJ cZ h_p0 h_p1 ad_p0 ad_p1 p0_places p0_steps p0_coloured p0_closed p0_heeds p0_needs p0_placeKinds p0_stepKinds p0_takes p0_wants p1_many p1_things) := hD
      refine lv_if_eq (tgt := 28) hx hb dX5_leastGoing_23 (by decide) (fun c5 => ?_) (fun c6 => ?_)
      · have hw := hw.1 c5
        obtain ⟨x7, ex7⟩ : ∃ y : Int32, y = v3 + (1 : Int32) := ⟨_, rfl⟩
        have hw := hw x7 ex7
        refine lv_iinc (v := x7) (lv' := [(3, .int x7), (0, .ref h_p0), (1, .ref h_p1), (2, .int v2)]) hx hb dX5_leastGoing_28 hl (k := 3) rfl (by rw [ex7]; rfl) (by decide) rfl (fun ls hl => ?_)
        refine lv_goto (tgt := 8) hx hb dX5_leastGoing_31 (by decide) ?_
        exact ih _ hw _ _ _ hP hD hS (lv_sub hl [1, 2, 3, 0] rfl)
      · have hw := hw.2 c6
        refine lv_iload_n hx hb dX5_leastGoing_26 rfl (lv_at hl 3 rfl) ?_
        exact x_iret (w1 := fun (u : Unit) => (wld_X5_leastGoing cI cJ cZ h_p0 h_p1 ad_p0 ad_p1 p0_places p0_steps p0_coloured p0_closed p0_heeds p0_needs p0_placeKinds p0_stepKinds p0_takes p0_wants p1_many p1_things)) hx hb hr hlocks () hw hP hD hS dX5_leastGoing_27
set_option maxHeartbeats 4000000 in
set_option maxRecDepth 100000 in
theorem c_X5_leastGoing {l : Launch} {dC : Nat → ClassId} {dI : Nat → Nat → Nat} {sz : Nat} {cI cJ cZ : ClassId} {h_p0 : Nat} {h_p1 : Nat} {ad_p0 : Nat → Nat} {ad_p1 : Nat → Nat} {p0_places : Int32} {p0_steps : Int32} {p0_coloured : Int32} {p0_closed : Nat → Int32} {p0_heeds : Nat → Int32} {p0_needs : Nat → Int32} {p0_placeKinds : Nat → Int32} {p0_stepKinds : Nat → Int32} {p0_takes : Nat → Int32} {p0_wants : Nat → Int32} {p1_many : Nat → Int32} {p1_things : Nat → Int64}  {post : Int32 → Prop} (hw : w_X5_leastGoing p0_places p0_steps p0_closed p0_heeds p0_needs p0_placeKinds p0_stepKinds p0_takes p0_wants p1_many p1_things post) : Met l yX5_leastGoing wsX5_leastGoing ({ frames := 4, cells := 0, slots := 0, locals := 95 }) (va_Pc [.ref h_p0, .ref h_p1] (xPre (dC, dI) cI cJ cZ (wld_X5_leastGoing cI cJ cZ h_p0 h_p1 ad_p0 ad_p1 p0_places p0_steps p0_coloured p0_closed p0_heeds p0_needs p0_placeKinds p0_stepKinds p0_takes p0_wants p1_many p1_things) sz)) (q_X5_leastGoing dC dI cI cJ cZ h_p0 h_p1 ad_p0 ad_p1 p0_places p0_steps p0_coloured p0_closed p0_heeds p0_needs p0_placeKinds p0_stepKinds p0_takes p0_wants p1_many p1_things post (va_A (wld_X5_leastGoing cI cJ cZ h_p0 h_p1 ad_p0 ad_p1 p0_places p0_steps p0_coloured p0_closed p0_heeds p0_needs p0_placeKinds p0_stepKinds p0_takes p0_wants p1_many p1_things) sz)) 0 0 (va_A (wld_X5_leastGoing cI cJ cZ h_p0 h_p1 ad_p0 ad_p1 p0_places p0_steps p0_coloured p0_closed p0_heeds p0_needs p0_placeKinds p0_stepKinds p0_takes p0_wants p1_many p1_things) sz) := by
  refine x_met (cc := cX5_leastGoing) (maxL := 4) (ret := (some .int)) (own := RX5) (Qc := fun A => (q_X5_leastGoing dC dI cI cJ cZ h_p0 h_p1 ad_p0 ad_p1 p0_places p0_steps p0_coloured p0_closed p0_heeds p0_needs p0_placeKinds p0_stepKinds p0_takes p0_wants p1_many p1_things post A)) (by decide) rfl rfl (Nat.le_of_ble_eq_true rfl) ?_
  intro p e s m args below meth c A ls E0 hP hD hS hl
  obtain ⟨hx, hb, hr, hml, hown, hts, hlocks, hK, hA, n1, n2⟩ := id E0
  have iX3 : ∀ w ∈ u_ws RX3 TX3 2, w ∈ wsX5_leastGoing := fun w h => List.mem_cons_of_mem _ (List.mem_append_right _ h)
  have iX5 : ∀ w ∈ u_ws RX5 TX5 14, w ∈ wsX5_leastGoing := fun w h => List.mem_cons_of_mem _ (List.mem_append_left _ (List.mem_append_right _ h))
  have hS0 := hS
  have hl : lv_has ls 4 [(0, .ref h_p0), (1, .ref h_p1)] := hl
  unfold w_X5_leastGoing at hw
  obtain ⟨H, hH⟩ : ∃ H, H = s.heap := ⟨_, rfl⟩
  have hS : va_S A s.heap H [] := by rw [hH]; exact hS
  have hP : va_P (dC, dI) vwCl (wld_X5_leastGoing cI cJ cZ h_p0 h_p1 ad_p0 ad_p1 p0_places p0_steps p0_coloured p0_closed p0_heeds p0_needs p0_placeKinds p0_stepKinds p0_takes p0_wants p1_many p1_things) H := by rw [hH]; exact hP
  suffices hG : W p l e ({ frames := 4, cells := 0, slots := 0, locals := 95 }) s m args below meth c H [] 0 0 (MQ below (q_X5_leastGoing dC dI cI cJ cZ h_p0 h_p1 ad_p0 ad_p1 p0_places p0_steps p0_coloured p0_closed p0_heeds p0_needs p0_placeKinds p0_stepKinds p0_takes p0_wants p1_many p1_things post A) args s 0 0 A) (F0 m 0 ls []) by rw [hH] at hG; exact hG
  clear hH
  refine lv_aload_n hx hb dX5_leastGoing_0 rfl (lv_at hl 0 rfl) ?_
  refine lv_aload_n hx hb dX5_leastGoing_1 rfl (lv_at hl 1 rfl) ?_
  obtain ⟨hPc, hDc⟩ := x_sub (wc := (wld_X5_urges cI cJ cZ h_p0 h_p1 ad_p0 ad_p1 p0_places p0_steps p0_coloured p0_closed p0_heeds p0_needs p0_placeKinds p0_stepKinds p0_takes p0_wants p1_many p1_things)) hP hD [0, 1, 2, 3, 4, 5, 6, 7, 8, 9, 10] (n := 11) rfl rfl (by decide +kernel)
  refine x_calli (ws' := fun (u : Unit) => (wld_X5_leastGoing cI cJ cZ h_p0 h_p1 ad_p0 ad_p1 p0_places p0_steps p0_coloured p0_closed p0_heeds p0_needs p0_placeKinds p0_stepKinds p0_takes p0_wants p1_many p1_things)) hP hD hS hA [0, 1, 2, 3, 4, 5, 6, 7, 8, 9, 10] [] [0, 1, 2, 3, 4, 5, 6, 7, 8, 9, 10] (n := 11) (k := 11) rfl (fun _ => rfl) rfl (by decide +kernel) (fun _ => rfl) (va_runV (As := [.ref h_p1]) (rest := []) ⟨hx, hb, hml, hown, hts⟩ (c_X5_urges (l := l) (dC := dC) (dI := dI) (cI := cI) (cJ := cJ) (cZ := cZ) (sz := H.size) (h_p0 := h_p0) (h_p1 := h_p1) (ad_p0 := ad_p0) (ad_p1 := ad_p1) (p0_places := p0_places) (p0_steps := p0_steps) (p0_coloured := p0_coloured) (p0_closed := p0_closed) (p0_heeds := p0_heeds) (p0_needs := p0_needs) (p0_placeKinds := p0_placeKinds) (p0_stepKinds := p0_stepKinds) (p0_takes := p0_takes) (p0_wants := p0_wants) (p1_many := p1_many) (p1_things := p1_things) hw) (cwV 1 hts gX5_leastGoing_X5_urges rfl rfl rfl (by decide +kernel) ⟨Nat.le_of_ble_eq_true rfl, Nat.le_of_ble_eq_true rfl⟩) ⟨xPre_blind, va_recv hK hP (ci := 5) (q0 := 0) rfl rfl, xPre_at hK hPc hDc n1 n2⟩ rfl rfl hl.1 rfl (lv_room (Nat.le_of_ble_eq_true rfl)) dX5_leastGoing_2 ⟨Nat.zero_le _, Nat.zero_le _⟩) (fun r1 u H locs hw hP hD hS => ?_)
  try dsimp only at hw
  have hP : va_P (dC, dI) vwCl (wld_X5_leastGoing cI cJ cZ h_p0 h_p1 ad_p0 ad_p1 p0_places p0_steps p0_coloured p0_closed p0_heeds p0_needs p0_placeKinds p0_stepKinds p0_takes p0_wants p1_many p1_things) H := hP
  have hD : va_D A (wld_X5_leastGoing cI cJ cZ h_p0 h_p1 ad_p0 ad_p1 p0_places p0_steps p0_coloured p0_closed p0_heeds p0_needs p0_placeKinds p0_stepKinds p0_takes p0_wants p1_many p1_things) := hD
  refine lv_istore_n (lv' := [(2, .int r1), (0, .ref h_p0), (1, .ref h_p1)]) hx hb dX5_leastGoing_5 rfl hl (by decide) rfl (fun ls hl => ?_)
  refine lv_iconst (v := 0) hx hb dX5_leastGoing_6 (by decide) ?_
  refine lv_istore_n (lv' := [(3, .int (0 : Int32)), (2, .int r1), (0, .ref h_p0), (1, .ref h_p1)]) hx hb dX5_leastGoing_7 rfl hl (by decide) rfl (fun ls hl => ?_)
  obtain ⟨n8, hw⟩ := hw
  refine c_X5_leastGoing_L8 (l := l)  E0 ?_ n8 _ hw _ _ _ hP hD hS (lv_sub hl [2, 3, 1, 0] rfl)
  · intro v9 H locs ls hw hP hD hS hl
    have hP : va_P (dC, dI) vwCl (wld_X5_leastGoing cI cJ cZ h_p0 h_p1 ad_p0 ad_p1 p0_places p0_steps p0_coloured p0_closed p0_heeds p0_needs p0_placeKinds p0_stepKinds p0_takes p0_wants p1_many p1_things) H := hP
    have hD : va_D A (wld_X5_leastGoing cI cJ cZ h_p0 h_p1 ad_p0 ad_p1 p0_places p0_steps p0_coloured p0_closed p0_heeds p0_needs p0_placeKinds p0_stepKinds p0_takes p0_wants p1_many p1_things) := hD
    refine lv_iconst (v := -1) hx hb dX5_leastGoing_34 (by decide) ?_
    exact x_iret (w1 := fun (u : Unit) => (wld_X5_leastGoing cI cJ cZ h_p0 h_p1 ad_p0 ad_p1 p0_places p0_steps p0_coloured p0_closed p0_heeds p0_needs p0_placeKinds p0_stepKinds p0_takes p0_wants p1_many p1_things)) hx hb hr hlocks () hw hP hD hS dX5_leastGoing_35
abbrev wld_X5_overfills (cI cJ cZ : ClassId) (h_p0 : Nat) (h_p1 : Nat) (ad_p0 : Nat → Nat) (ad_p1 : Nat → Nat) (p0_places : Int32) (p0_steps : Int32) (p0_coloured : Int32) (p0_placeKinds : Nat → Int32) (p0_puts : Nat → Int32) (p0_takes : Nat → Int32) (p1_many : Nat → Int32) : va_W := [(h_p0, .inr (5, [.ref (ad_p0 0), .ref (ad_p0 1), .ref (ad_p0 2), .ref (ad_p0 3), .ref (ad_p0 4), .ref (ad_p0 5), .ref (ad_p0 6), .ref (ad_p0 7), .ref (ad_p0 8), .ref (ad_p0 9), .ref (ad_p0 10), .int p0_places, .int p0_steps, .int p0_coloured])), ((ad_p0 0), .inl (cI, 16, .inl p0_placeKinds)), ((ad_p0 3), .inl (cI, 256, .inl p0_puts)), ((ad_p0 2), .inl (cI, 256, .inl p0_takes)), (h_p1, .inr (3, [.ref (ad_p1 0), .ref (ad_p1 1)])), ((ad_p1 0), .inl (cI, 16, .inl p1_many))]
abbrev q_X5_overfills (dC : Nat → ClassId) (dI : Nat → Nat → Nat) (cI cJ cZ : ClassId) (h_p0 : Nat) (h_p1 : Nat) (ad_p0 : Nat → Nat) (ad_p1 : Nat → Nat) (p0_places : Int32) (p0_steps : Int32) (p0_coloured : Int32) (p0_placeKinds : Nat → Int32) (p0_puts : Nat → Int32) (p0_takes : Nat → Int32) (p1_many : Nat → Int32) (post : Int32 → Prop) (A : Nat → Prop) : Array Value → State → Outcome → State → Prop := va_Qi (fun r (u : Unit) => post r ) (fun (u : Unit) t => xPost (dC, dI) A (wld_X5_overfills cI cJ cZ h_p0 h_p1 ad_p0 ad_p1 p0_places p0_steps p0_coloured p0_placeKinds p0_puts p0_takes p1_many) t) A
def w_X5_overfills_L2b (v2 : Int32) (p0_places : Int32) (p0_placeKinds : Nat → Int32) (p0_puts : Nat → Int32) (p0_takes : Nat → Int32) (p1_many : Nat → Int32) (post : Int32 → Prop) (K : (Int32) → Prop) (rec : (Int32) → Prop) (v3 : Int32) : Prop :=
    (p0_places ≤ v3 →
      K v3) ∧
    (¬ p0_places ≤ v3 →
      w_X5_isColoured p0_placeKinds v3 (fun r3 =>
      (r3 = 0 →
        vp_in v3 16 ∧
        w_X5_change p0_puts p0_takes v2 v3 (fun r6 =>
        (((p1_many v3.toNatClampNeg) + r6) ≤ (1000000000 : Int32) →
          ∀ x9 : Int32, x9 = v3 + (1 : Int32) →
          rec x9) ∧
        (¬ ((p1_many v3.toNatClampNeg) + r6) ≤ (1000000000 : Int32) →
          (post (1 : Int32))))) ∧
      (¬ r3 = 0 →
        vp_in v3 16 ∧
        w_X5_change p0_puts p0_takes v2 v3 (fun r10 =>
        (((p1_many v3.toNatClampNeg) + r10) ≤ (20 : Int32) →
          ∀ x13 : Int32, x13 = v3 + (1 : Int32) →
          rec x13) ∧
        (¬ ((p1_many v3.toNatClampNeg) + r10) ≤ (20 : Int32) →
          (post (1 : Int32)))))))
def w_X5_overfills_L2 (v2 : Int32) (p0_places : Int32) (p0_placeKinds : Nat → Int32) (p0_puts : Nat → Int32) (p0_takes : Nat → Int32) (p1_many : Nat → Int32) (post : Int32 → Prop) (K : (Int32) → Prop) : Nat → (Int32) → Prop
  | 0, _ => False
  | n + 1, v3 => w_X5_overfills_L2b v2 p0_places p0_placeKinds p0_puts p0_takes p1_many post K (w_X5_overfills_L2 v2 p0_places p0_placeKinds p0_puts p0_takes p1_many post K n) v3
def w_X5_overfills (p0_places : Int32) (p0_placeKinds : Nat → Int32) (p0_puts : Nat → Int32) (p0_takes : Nat → Int32) (p1_many : Nat → Int32) (a2 : Int32) (post : Int32 → Prop) : Prop :=
  ∃ n : Nat, w_X5_overfills_L2 a2 p0_places p0_placeKinds p0_puts p0_takes p1_many post (fun v15 =>
      (post (0 : Int32))) n (0 : Int32)
set_option maxHeartbeats 4000000 in
set_option maxRecDepth 100000 in
theorem c_X5_overfills_L2 {p : Program} {l : Launch} {e : Env} {s : State} {m : MethodId} {args : Array Value} {below : List Frame} {meth : Method} {c : Code} {dC : Nat → ClassId} {dI : Nat → Nat → Nat} {A : Nat → Prop} {cI cJ cZ : ClassId} {h_p0 : Nat} {h_p1 : Nat} {ad_p0 : Nat → Nat} {ad_p1 : Nat → Nat} {p0_places : Int32} {p0_steps : Int32} {p0_coloured : Int32} {p0_placeKinds : Nat → Int32} {p0_puts : Nat → Int32} {p0_takes : Nat → Int32} {p1_many : Nat → Int32} {v2 : Int32}  {post : Int32 → Prop} {K : (Int32) → Prop} (E0 : xEnv p s m args meth c cX5_overfills (some .boolean) 5 RX5 wsX5_overfills (dC, dI) cI cJ cZ A) (hk : ∀ (v3 : Int32) (H : Heap) (locs : List Loc) (ls : Array Slot), K v3 → va_P (dC, dI) vwCl (wld_X5_overfills cI cJ cZ h_p0 h_p1 ad_p0 ad_p1 p0_places p0_steps p0_coloured p0_placeKinds p0_puts p0_takes p1_many) H → va_D A (wld_X5_overfills cI cJ cZ h_p0 h_p1 ad_p0 ad_p1 p0_places p0_steps p0_coloured p0_placeKinds p0_puts p0_takes p1_many) → va_S A s.heap H locs → lv_has ls 5 [] → W p l e ({ frames := 2, cells := 0, slots := 0, locals := 43 }) s m args below meth c H locs 0 0 (MQ below (q_X5_overfills dC dI cI cJ cZ h_p0 h_p1 ad_p0 ad_p1 p0_places p0_steps p0_coloured p0_placeKinds p0_puts p0_takes p1_many post A) args s 0 0 A) (F0 m 53 ls [])) : ∀ (n : Nat) (v3 : Int32), w_X5_overfills_L2 v2 p0_places p0_placeKinds p0_puts p0_takes p1_many post K n v3 → ∀ (H : Heap) (locs : List Loc) (ls : Array Slot), va_P (dC, dI) vwCl (wld_X5_overfills cI cJ cZ h_p0 h_p1 ad_p0 ad_p1 p0_places p0_steps p0_coloured p0_placeKinds p0_puts p0_takes p1_many) H → va_D A (wld_X5_overfills cI cJ cZ h_p0 h_p1 ad_p0 ad_p1 p0_places p0_steps p0_coloured p0_placeKinds p0_puts p0_takes p1_many) → va_S A s.heap H locs → lv_has ls 5 [(0, .ref h_p0), (1, .ref h_p1), (2, .int v2), (3, .int v3)] → W p l e ({ frames := 2, cells := 0, slots := 0, locals := 43 }) s m args below meth c H locs 0 0 (MQ below (q_X5_overfills dC dI cI cJ cZ h_p0 h_p1 ad_p0 ad_p1 p0_places p0_steps p0_coloured p0_placeKinds p0_puts p0_takes p1_many post A) args s 0 0 A) (F0 m 2 ls []) := by
  obtain ⟨hx, hb, hr, hml, hown, hts, hlocks, hK, hA, n1, n2⟩ := id E0
  have iX3 : ∀ w ∈ u_ws RX3 TX3 2, w ∈ wsX5_overfills := fun w h => List.mem_cons_of_mem _ (List.mem_append_right _ h)
  have iX5 : ∀ w ∈ u_ws RX5 TX5 14, w ∈ wsX5_overfills := fun w h => List.mem_cons_of_mem _ (List.mem_append_left _ (List.mem_append_right _ h))
  intro n
  induction n with
  | zero => intro v3 hw; exact hw.elim
  | succ n ih =>
    intro v3 hw H locs ls hP hD hS hl
    have hw : w_X5_overfills_L2b v2 p0_places p0_placeKinds p0_puts p0_takes p1_many post K (w_X5_overfills_L2 v2 p0_places p0_placeKinds p0_puts p0_takes p1_many post K n) v3 := hw
    unfold w_X5_overfills_L2b at hw
    refine lv_iload_n hx hb dX5_overfills_2 rfl (lv_at hl 3 rfl) ?_
    refine lv_aload_n hx hb dX5_overfills_3 rfl (lv_at hl 0 rfl) ?_
    refine va_get (D := (dC, dI)) (ci := 5) (v := .int p0_places) (C := RX5) (T := TX5) (N := 14) hx hb hts iX5 hown hK hP 0 rfl rfl 11 (by decide) (hts (.fieldLink RX5 45 "NetHouse$Net" "places" "I") (by decide +kernel)) (fun _ h9 => h9) rfl dX5_overfills_4 ?_
    refine lv_icmp_ge (tgt := 53) hx hb dX5_overfills_7 (by decide) (fun c1 => ?_) (fun c2 => ?_)
    · have hw := hw.1 c1
      exact hk _ _ _ _ hw hP hD hS (lv_sub hl [] rfl)
    · have hw := hw.2 c2
      refine lv_aload_n hx hb dX5_overfills_10 rfl (lv_at hl 0 rfl) ?_
      refine lv_iload_n hx hb dX5_overfills_11 rfl (lv_at hl 3 rfl) ?_
      obtain ⟨hPc, hDc⟩ := x_sub (wc := (wld_X5_isColoured cI cJ cZ h_p0 ad_p0 p0_places p0_steps p0_coloured p0_placeKinds)) hP hD [0, 1] (n := 6) rfl rfl (by decide +kernel)
      refine x_calli (ws' := fun (u : Unit) => (wld_X5_overfills cI cJ cZ h_p0 h_p1 ad_p0 ad_p1 p0_places p0_steps p0_coloured p0_placeKinds p0_puts p0_takes p1_many)) hP hD hS hA [0, 1] [2, 3, 4, 5] [4, 5, 0, 1, 2, 3] (n := 6) (k := 2) rfl (fun _ => rfl) rfl (by decide +kernel) (fun _ => rfl) (va_runV (As := [.int v3]) (rest := []) ⟨hx, hb, hml, hown, hts⟩ (c_X5_isColoured (l := l) (dC := dC) (dI := dI) (cI := cI) (cJ := cJ) (cZ := cZ) (sz := H.size) (h_p0 := h_p0) (ad_p0 := ad_p0) (p0_places := p0_places) (p0_steps := p0_steps) (p0_coloured := p0_coloured) (p0_placeKinds := p0_placeKinds) hw) (cwV 1 hts gX5_overfills_X5_isColoured rfl rfl rfl (by decide +kernel) ⟨Nat.le_of_ble_eq_true rfl, Nat.le_of_ble_eq_true rfl⟩) ⟨xPre_blind, va_recv hK hP (ci := 5) (q0 := 0) rfl rfl, xPre_at hK hPc hDc n1 n2⟩ rfl rfl hl.1 rfl (lv_room (Nat.le_of_ble_eq_true rfl)) dX5_overfills_12 ⟨Nat.zero_le _, Nat.zero_le _⟩) (fun r3 u H locs hw hP hD hS => ?_)
      try dsimp only at hw
      have hP : va_P (dC, dI) vwCl (wld_X5_overfills cI cJ cZ h_p0 h_p1 ad_p0 ad_p1 p0_places p0_steps p0_coloured p0_placeKinds p0_puts p0_takes p1_many) H := hP
      have hD : va_D A (wld_X5_overfills cI cJ cZ h_p0 h_p1 ad_p0 ad_p1 p0_places p0_steps p0_coloured p0_placeKinds p0_puts p0_takes p1_many) := hD
      refine lv_if_eq (tgt := 23) hx hb dX5_overfills_15 (by decide) (fun c4 => ?_) (fun c5 => ?_)
      · have hw := hw.1 c4
        refine lv_ldc (v := 1000000000) hx hb hown (hts (.constant RX5 97 (1000000000)) (by decide +kernel)) dX5_overfills_23 ?_
        refine lv_istore (lv' := [(4, .int (1000000000 : Int32)), (0, .ref h_p0), (1, .ref h_p1), (2, .int v2), (3, .int v3)]) hx hb dX5_overfills_25 hl (by decide) rfl (fun ls hl => ?_)
        refine lv_aload_n hx hb dX5_overfills_27 rfl (lv_at hl 2 rfl) ?_
        refine va_get (D := (dC, dI)) (ci := 3) (v := .ref (ad_p1 0)) (C := RX3) (T := TX3) (N := 2) hx hb hts iX3 hown hK hP 4 rfl rfl 0 (by decide) (hts (.fieldLink RX5 74 "NetHouse$Holding" "many" "[I") (by decide +kernel)) (fun _ h9 => h9) rfl dX5_overfills_28 ?_
        refine lv_iload_n hx hb dX5_overfills_31 rfl (lv_at hl 4 rfl) ?_
        refine va_iald hx hb hK hP 5 0 rfl rfl hw.1 dX5_overfills_32 ?_
        have hw := hw.2
        refine lv_aload_n hx hb dX5_overfills_33 rfl (lv_at hl 1 rfl) ?_
        refine lv_iload_n hx hb dX5_overfills_34 rfl (lv_at hl 3 rfl) ?_
        refine lv_iload_n hx hb dX5_overfills_35 rfl (lv_at hl 4 rfl) ?_
        obtain ⟨hPc, hDc⟩ := x_sub (wc := (wld_X5_change cI cJ cZ h_p0 ad_p0 p0_places p0_steps p0_coloured p0_puts p0_takes)) hP hD [0, 2, 3] (n := 6) rfl rfl (by decide +kernel)
        refine x_calli (ws' := fun (u : Unit) => (wld_X5_overfills cI cJ cZ h_p0 h_p1 ad_p0 ad_p1 p0_places p0_steps p0_coloured p0_placeKinds p0_puts p0_takes p1_many)) hP hD hS hA [0, 2, 3] [1, 4, 5] [3, 0, 4, 5, 1, 2] (n := 6) (k := 3) rfl (fun _ => rfl) rfl (by decide +kernel) (fun _ => rfl) (va_runV (As := [.int v2, .int v3]) (rest := [.int (p1_many v3.toNatClampNeg)]) ⟨hx, hb, hml, hown, hts⟩ (c_X5_change (l := l) (dC := dC) (dI := dI) (cI := cI) (cJ := cJ) (cZ := cZ) (sz := H.size) (h_p0 := h_p0) (ad_p0 := ad_p0) (p0_places := p0_places) (p0_steps := p0_steps) (p0_coloured := p0_coloured) (p0_puts := p0_puts) (p0_takes := p0_takes) hw) (cwV 2 hts gX5_overfills_X5_change rfl rfl rfl (by decide +kernel) ⟨Nat.le_of_ble_eq_true rfl, Nat.le_of_ble_eq_true rfl⟩) ⟨xPre_blind, va_recv hK hP (ci := 5) (q0 := 0) rfl rfl, xPre_at hK hPc hDc n1 n2⟩ rfl rfl hl.1 rfl (lv_room (Nat.le_of_ble_eq_true rfl)) dX5_overfills_36 ⟨Nat.zero_le _, Nat.zero_le _⟩) (fun r6 u H locs hw hP hD hS => ?_)
        try dsimp only at hw
        have hP : va_P (dC, dI) vwCl (wld_X5_overfills cI cJ cZ h_p0 h_p1 ad_p0 ad_p1 p0_places p0_steps p0_coloured p0_placeKinds p0_puts p0_takes p1_many) H := hP
        have hD : va_D A (wld_X5_overfills cI cJ cZ h_p0 h_p1 ad_p0 ad_p1 p0_places p0_steps p0_coloured p0_placeKinds p0_puts p0_takes p1_many) := hD
        refine lv_iadd hx hb dX5_overfills_39 ?_
        refine lv_iload hx hb dX5_overfills_40 (lv_at hl 0 rfl) ?_
        refine lv_icmp_le (tgt := 47) hx hb dX5_overfills_42 (by decide) (fun c7 => ?_) (fun c8 => ?_)
        · have hw := hw.1 c7
          obtain ⟨x9, ex9⟩ : ∃ y : Int32, y = v3 + (1 : Int32) := ⟨_, rfl⟩
          have hw := hw x9 ex9
          refine lv_iinc (v := x9) (lv' := [(3, .int x9), (4, .int (1000000000 : Int32)), (0, .ref h_p0), (1, .ref h_p1), (2, .int v2)]) hx hb dX5_overfills_47 hl (k := 4) rfl (by rw [ex9]; rfl) (by decide) rfl (fun ls hl => ?_)
          refine lv_goto (tgt := 2) hx hb dX5_overfills_50 (by decide) ?_
          exact ih _ hw _ _ _ hP hD hS (lv_sub hl [2, 3, 4, 0] rfl)
        · have hw := hw.2 c8
          refine lv_iconst (v := 1) hx hb dX5_overfills_45 (by decide) ?_
          exact x_zret (w1 := fun (u : Unit) => (wld_X5_overfills cI cJ cZ h_p0 h_p1 ad_p0 ad_p1 p0_places p0_steps p0_coloured p0_placeKinds p0_puts p0_takes p1_many)) hx hb hr hlocks (by decide) () hw hP hD hS dX5_overfills_46
      · have hw := hw.2 c5
        refine lv_bipush (v := 20) hx hb dX5_overfills_18 (by decide) ?_
        refine lv_goto (tgt := 25) hx hb dX5_overfills_20 (by decide) ?_
        refine lv_istore (lv' := [(4, .int (20 : Int32)), (0, .ref h_p0), (1, .ref h_p1), (2, .int v2), (3, .int v3)]) hx hb dX5_overfills_25 hl (by decide) rfl (fun ls hl => ?_)
        refine lv_aload_n hx hb dX5_overfills_27 rfl (lv_at hl 2 rfl) ?_
        refine va_get (D := (dC, dI)) (ci := 3) (v := .ref (ad_p1 0)) (C := RX3) (T := TX3) (N := 2) hx hb hts iX3 hown hK hP 4 rfl rfl 0 (by decide) (hts (.fieldLink RX5 74 "NetHouse$Holding" "many" "[I") (by decide +kernel)) (fun _ h9 => h9) rfl dX5_overfills_28 ?_
        refine lv_iload_n hx hb dX5_overfills_31 rfl (lv_at hl 4 rfl) ?_
        refine va_iald hx hb hK hP 5 0 rfl rfl hw.1 dX5_overfills_32 ?_
        have hw := hw.2
        refine lv_aload_n hx hb dX5_overfills_33 rfl (lv_at hl 1 rfl) ?_
        refine lv_iload_n hx hb dX5_overfills_34 rfl (lv_at hl 3 rfl) ?_
        refine lv_iload_n hx hb dX5_overfills_35 rfl (lv_at hl 4 rfl) ?_
        obtain ⟨hPc, hDc⟩ := x_sub (wc := (wld_X5_change cI cJ cZ h_p0 ad_p0 p0_places p0_steps p0_coloured p0_puts p0_takes)) hP hD [0, 2, 3] (n := 6) rfl rfl (by decide +kernel)
        refine x_calli (ws' := fun (u : Unit) => (wld_X5_overfills cI cJ cZ h_p0 h_p1 ad_p0 ad_p1 p0_places p0_steps p0_coloured p0_placeKinds p0_puts p0_takes p1_many)) hP hD hS hA [0, 2, 3] [1, 4, 5] [3, 0, 4, 5, 1, 2] (n := 6) (k := 3) rfl (fun _ => rfl) rfl (by decide +kernel) (fun _ => rfl) (va_runV (As := [.int v2, .int v3]) (rest := [.int (p1_many v3.toNatClampNeg)]) ⟨hx, hb, hml, hown, hts⟩ (c_X5_change (l := l) (dC := dC) (dI := dI) (cI := cI) (cJ := cJ) (cZ := cZ) (sz := H.size) (h_p0 := h_p0) (ad_p0 := ad_p0) (p0_places := p0_places) (p0_steps := p0_steps) (p0_coloured := p0_coloured) (p0_puts := p0_puts) (p0_takes := p0_takes) hw) (cwV 2 hts gX5_overfills_X5_change rfl rfl rfl (by decide +kernel) ⟨Nat.le_of_ble_eq_true rfl, Nat.le_of_ble_eq_true rfl⟩) ⟨xPre_blind, va_recv hK hP (ci := 5) (q0 := 0) rfl rfl, xPre_at hK hPc hDc n1 n2⟩ rfl rfl hl.1 rfl (lv_room (Nat.le_of_ble_eq_true rfl)) dX5_overfills_36 ⟨Nat.zero_le _, Nat.zero_le _⟩) (fun r10 u H locs hw hP hD hS => ?_)
        try dsimp only at hw
        have hP : va_P (dC, dI) vwCl (wld_X5_overfills cI cJ cZ h_p0 h_p1 ad_p0 ad_p1 p0_places p0_steps p0_coloured p0_placeKinds p0_puts p0_takes p1_many) H := hP
        have hD : va_D A (wld_X5_overfills cI cJ cZ h_p0 h_p1 ad_p0 ad_p1 p0_places p0_steps p0_coloured p0_placeKinds p0_puts p0_takes p1_many) := hD
        refine lv_iadd hx hb dX5_overfills_39 ?_
        refine lv_iload hx hb dX5_overfills_40 (lv_at hl 0 rfl) ?_
        refine lv_icmp_le (tgt := 47) hx hb dX5_overfills_42 (by decide) (fun c11 => ?_) (fun c12 => ?_)
        · have hw := hw.1 c11
          obtain ⟨x13, ex13⟩ : ∃ y : Int32, y = v3 + (1 : Int32) := ⟨_, rfl⟩
          have hw := hw x13 ex13
          refine lv_iinc (v := x13) (lv' := [(3, .int x13), (4, .int (20 : Int32)), (0, .ref h_p0), (1, .ref h_p1), (2, .int v2)]) hx hb dX5_overfills_47 hl (k := 4) rfl (by rw [ex13]; rfl) (by decide) rfl (fun ls hl => ?_)
          refine lv_goto (tgt := 2) hx hb dX5_overfills_50 (by decide) ?_
          exact ih _ hw _ _ _ hP hD hS (lv_sub hl [2, 3, 4, 0] rfl)
        · have hw := hw.2 c12
          refine lv_iconst (v := 1) hx hb dX5_overfills_45 (by decide) ?_
          exact x_zret (w1 := fun (u : Unit) => (wld_X5_overfills cI cJ cZ h_p0 h_p1 ad_p0 ad_p1 p0_places p0_steps p0_coloured p0_placeKinds p0_puts p0_takes p1_many)) hx hb hr hlocks (by decide) () hw hP hD hS dX5_overfills_46
set_option maxHeartbeats 4000000 in
set_option maxRecDepth 100000 in
theorem c_X5_overfills {l : Launch} {dC : Nat → ClassId} {dI : Nat → Nat → Nat} {sz : Nat} {cI cJ cZ : ClassId} {h_p0 : Nat} {h_p1 : Nat} {ad_p0 : Nat → Nat} {ad_p1 : Nat → Nat} {p0_places : Int32} {p0_steps : Int32} {p0_coloured : Int32} {p0_placeKinds : Nat → Int32} {p0_puts : Nat → Int32} {p0_takes : Nat → Int32} {p1_many : Nat → Int32} {a2 : Int32} {post : Int32 → Prop} (hw : w_X5_overfills p0_places p0_placeKinds p0_puts p0_takes p1_many a2 post) : Met l yX5_overfills wsX5_overfills ({ frames := 2, cells := 0, slots := 0, locals := 43 }) (va_Pc [.ref h_p0, .ref h_p1, .int a2] (xPre (dC, dI) cI cJ cZ (wld_X5_overfills cI cJ cZ h_p0 h_p1 ad_p0 ad_p1 p0_places p0_steps p0_coloured p0_placeKinds p0_puts p0_takes p1_many) sz)) (q_X5_overfills dC dI cI cJ cZ h_p0 h_p1 ad_p0 ad_p1 p0_places p0_steps p0_coloured p0_placeKinds p0_puts p0_takes p1_many post (va_A (wld_X5_overfills cI cJ cZ h_p0 h_p1 ad_p0 ad_p1 p0_places p0_steps p0_coloured p0_placeKinds p0_puts p0_takes p1_many) sz)) 0 0 (va_A (wld_X5_overfills cI cJ cZ h_p0 h_p1 ad_p0 ad_p1 p0_places p0_steps p0_coloured p0_placeKinds p0_puts p0_takes p1_many) sz) := by
  refine x_met (cc := cX5_overfills) (maxL := 5) (ret := (some .boolean)) (own := RX5) (Qc := fun A => (q_X5_overfills dC dI cI cJ cZ h_p0 h_p1 ad_p0 ad_p1 p0_places p0_steps p0_coloured p0_placeKinds p0_puts p0_takes p1_many post A)) (by decide) rfl rfl (Nat.le_of_ble_eq_true rfl) ?_
  intro p e s m args below meth c A ls E0 hP hD hS hl
  obtain ⟨hx, hb, hr, hml, hown, hts, hlocks, hK, hA, n1, n2⟩ := id E0
  have iX3 : ∀ w ∈ u_ws RX3 TX3 2, w ∈ wsX5_overfills := fun w h => List.mem_cons_of_mem _ (List.mem_append_right _ h)
  have iX5 : ∀ w ∈ u_ws RX5 TX5 14, w ∈ wsX5_overfills := fun w h => List.mem_cons_of_mem _ (List.mem_append_left _ (List.mem_append_right _ h))
  have hS0 := hS
  have hl : lv_has ls 5 [(0, .ref h_p0), (1, .ref h_p1), (2, .int a2)] := hl
  unfold w_X5_overfills at hw
  obtain ⟨H, hH⟩ : ∃ H, H = s.heap := ⟨_, rfl⟩
  have hS : va_S A s.heap H [] := by rw [hH]; exact hS
  have hP : va_P (dC, dI) vwCl (wld_X5_overfills cI cJ cZ h_p0 h_p1 ad_p0 ad_p1 p0_places p0_steps p0_coloured p0_placeKinds p0_puts p0_takes p1_many) H := by rw [hH]; exact hP
  suffices hG : W p l e ({ frames := 2, cells := 0, slots := 0, locals := 43 }) s m args below meth c H [] 0 0 (MQ below (q_X5_overfills dC dI cI cJ cZ h_p0 h_p1 ad_p0 ad_p1 p0_places p0_steps p0_coloured p0_placeKinds p0_puts p0_takes p1_many post A) args s 0 0 A) (F0 m 0 ls []) by rw [hH] at hG; exact hG
  clear hH
  refine lv_iconst (v := 0) hx hb dX5_overfills_0 (by decide) ?_
  refine lv_istore_n (lv' := [(3, .int (0 : Int32)), (0, .ref h_p0), (1, .ref h_p1), (2, .int a2)]) hx hb dX5_overfills_1 rfl hl (by decide) rfl (fun ls hl => ?_)
  obtain ⟨n14, hw⟩ := hw
  refine c_X5_overfills_L2 (l := l)  E0 ?_ n14 _ hw _ _ _ hP hD hS (lv_sub hl [1, 2, 3, 0] rfl)
  · intro v15 H locs ls hw hP hD hS hl
    have hP : va_P (dC, dI) vwCl (wld_X5_overfills cI cJ cZ h_p0 h_p1 ad_p0 ad_p1 p0_places p0_steps p0_coloured p0_placeKinds p0_puts p0_takes p1_many) H := hP
    have hD : va_D A (wld_X5_overfills cI cJ cZ h_p0 h_p1 ad_p0 ad_p1 p0_places p0_steps p0_coloured p0_placeKinds p0_puts p0_takes p1_many) := hD
    refine lv_iconst (v := 0) hx hb dX5_overfills_53 (by decide) ?_
    exact x_zret (w1 := fun (u : Unit) => (wld_X5_overfills cI cJ cZ h_p0 h_p1 ad_p0 ad_p1 p0_places p0_steps p0_coloured p0_placeKinds p0_puts p0_takes p1_many)) hx hb hr hlocks (by decide) () hw hP hD hS dX5_overfills_54
abbrev wld_X5_entries (cI cJ cZ : ClassId) (h_p0 : Nat) (ad_p0 : Nat → Nat) (p0_places : Int32) (p0_steps : Int32) (p0_coloured : Int32) : va_W := [(h_p0, .inr (5, [.ref (ad_p0 0), .ref (ad_p0 1), .ref (ad_p0 2), .ref (ad_p0 3), .ref (ad_p0 4), .ref (ad_p0 5), .ref (ad_p0 6), .ref (ad_p0 7), .ref (ad_p0 8), .ref (ad_p0 9), .ref (ad_p0 10), .int p0_places, .int p0_steps, .int p0_coloured]))]
abbrev q_X5_entries (dC : Nat → ClassId) (dI : Nat → Nat → Nat) (cI cJ cZ : ClassId) (h_p0 : Nat) (ad_p0 : Nat → Nat) (p0_places : Int32) (p0_steps : Int32) (p0_coloured : Int32) (post : Nat → Prop) (A : Nat → Prop) : Array Value → State → Outcome → State → Prop := va_Qr post (fun u r t => r = (if u = 0 then (ad_p0 9) else (ad_p0 8)) ∧ xPost (dC, dI) A (wld_X5_entries cI cJ cZ h_p0 ad_p0 p0_places p0_steps p0_coloured) t) A
def w_X5_entries (a1 : Int32) (post : Nat → Prop) : Prop :=
  (¬ a1 = 0 →
    post 1) ∧
  (a1 = 0 →
    post 0)
set_option maxHeartbeats 4000000 in
set_option maxRecDepth 100000 in
theorem c_X5_entries {l : Launch} {dC : Nat → ClassId} {dI : Nat → Nat → Nat} {sz : Nat} {cI cJ cZ : ClassId} {h_p0 : Nat} {ad_p0 : Nat → Nat} {p0_places : Int32} {p0_steps : Int32} {p0_coloured : Int32} {a1 : Int32} {post : Nat → Prop} (hw : w_X5_entries a1 post) : Met l yX5_entries wsX5_entries ({ frames := 0, cells := 0, slots := 0, locals := 0 }) (va_Pc [.ref h_p0, .int a1] (xPre (dC, dI) cI cJ cZ (wld_X5_entries cI cJ cZ h_p0 ad_p0 p0_places p0_steps p0_coloured) sz)) (q_X5_entries dC dI cI cJ cZ h_p0 ad_p0 p0_places p0_steps p0_coloured post (va_A (wld_X5_entries cI cJ cZ h_p0 ad_p0 p0_places p0_steps p0_coloured) sz)) 0 0 (va_A (wld_X5_entries cI cJ cZ h_p0 ad_p0 p0_places p0_steps p0_coloured) sz) := by
  refine x_met (cc := cX5_entries) (maxL := 2) (ret := (some (.array .int))) (own := RX5) (Qc := fun A => (q_X5_entries dC dI cI cJ cZ h_p0 ad_p0 p0_places p0_steps p0_coloured post A)) (by decide) rfl rfl (Nat.le_of_ble_eq_true rfl) ?_
  intro p e s m args below meth c A ls E0 hP hD hS hl
  obtain ⟨hx, hb, hr, hml, hown, hts, hlocks, hK, hA, n1, n2⟩ := id E0
  have iX5 : ∀ w ∈ u_ws RX5 TX5 14, w ∈ wsX5_entries := fun w h => List.mem_cons_of_mem _ (List.mem_append_right _ h)
  have hS0 := hS
  have hl : lv_has ls 2 [(0, .ref h_p0), (1, .int a1)] := hl
  unfold w_X5_entries at hw
  obtain ⟨H, hH⟩ : ∃ H, H = s.heap := ⟨_, rfl⟩
  have hS : va_S A s.heap H [] := by rw [hH]; exact hS
  have hP : va_P (dC, dI) vwCl (wld_X5_entries cI cJ cZ h_p0 ad_p0 p0_places p0_steps p0_coloured) H := by rw [hH]; exact hP
  suffices hG : W p l e ({ frames := 0, cells := 0, slots := 0, locals := 0 }) s m args below meth c H [] 0 0 (MQ below (q_X5_entries dC dI cI cJ cZ h_p0 ad_p0 p0_places p0_steps p0_coloured post A) args s 0 0 A) (F0 m 0 ls []) by rw [hH] at hG; exact hG
  clear hH
  refine lv_iload_n hx hb dX5_entries_0 rfl (lv_at hl 1 rfl) ?_
  refine lv_if_ne (tgt := 11) hx hb dX5_entries_1 (by decide) (fun c1 => ?_) (fun c2 => ?_)
  · have hw := hw.1 c1
    refine lv_aload_n hx hb dX5_entries_11 rfl (lv_at hl 0 rfl) ?_
    refine va_get (D := (dC, dI)) (ci := 5) (v := .ref (ad_p0 8)) (C := RX5) (T := TX5) (N := 14) hx hb hts iX5 hown hK hP 0 rfl rfl 8 (by decide) (hts (.fieldLink RX5 36 "NetHouse$Net" "takesFrom" "[I") (by decide +kernel)) (fun _ h9 => h9) rfl dX5_entries_12 ?_
    exact x_aret hx hb hr hlocks 1 rfl hw hP hD hS dX5_entries_15
  · have hw := hw.2 c2
    refine lv_aload_n hx hb dX5_entries_4 rfl (lv_at hl 0 rfl) ?_
    refine va_get (D := (dC, dI)) (ci := 5) (v := .ref (ad_p0 9)) (C := RX5) (T := TX5) (N := 14) hx hb hts iX5 hown hK hP 0 rfl rfl 9 (by decide) (hts (.fieldLink RX5 39 "NetHouse$Net" "putsInto" "[I") (by decide +kernel)) (fun _ h9 => h9) rfl dX5_entries_5 ?_
    refine lv_goto (tgt := 15) hx hb dX5_entries_8 (by decide) ?_
    exact x_aret hx hb hr hlocks 0 rfl hw hP hD hS dX5_entries_15
abbrev wld_X5_exits (cI cJ cZ : ClassId) (h_p0 : Nat) (ad_p0 : Nat → Nat) (p0_places : Int32) (p0_steps : Int32) (p0_coloured : Int32) : va_W := [(h_p0, .inr (5, [.ref (ad_p0 0), .ref (ad_p0 1), .ref (ad_p0 2), .ref (ad_p0 3), .ref (ad_p0 4), .ref (ad_p0 5), .ref (ad_p0 6), .ref (ad_p0 7), .ref (ad_p0 8), .ref (ad_p0 9), .ref (ad_p0 10), .int p0_places, .int p0_steps, .int p0_coloured]))]
abbrev q_X5_exits (dC : Nat → ClassId) (dI : Nat → Nat → Nat) (cI cJ cZ : ClassId) (h_p0 : Nat) (ad_p0 : Nat → Nat) (p0_places : Int32) (p0_steps : Int32) (p0_coloured : Int32) (post : Nat → Prop) (A : Nat → Prop) : Array Value → State → Outcome → State → Prop := va_Qr post (fun u r t => r = (if u = 0 then (ad_p0 8) else (ad_p0 9)) ∧ xPost (dC, dI) A (wld_X5_exits cI cJ cZ h_p0 ad_p0 p0_places p0_steps p0_coloured) t) A
def w_X5_exits (a1 : Int32) (post : Nat → Prop) : Prop :=
  (¬ a1 = 0 →
    post 1) ∧
  (a1 = 0 →
    post 0)
set_option maxHeartbeats 4000000 in
set_option maxRecDepth 100000 in
theorem c_X5_exits {l : Launch} {dC : Nat → ClassId} {dI : Nat → Nat → Nat} {sz : Nat} {cI cJ cZ : ClassId} {h_p0 : Nat} {ad_p0 : Nat → Nat} {p0_places : Int32} {p0_steps : Int32} {p0_coloured : Int32} {a1 : Int32} {post : Nat → Prop} (hw : w_X5_exits a1 post) : Met l yX5_exits wsX5_exits ({ frames := 0, cells := 0, slots := 0, locals := 0 }) (va_Pc [.ref h_p0, .int a1] (xPre (dC, dI) cI cJ cZ (wld_X5_exits cI cJ cZ h_p0 ad_p0 p0_places p0_steps p0_coloured) sz)) (q_X5_exits dC dI cI cJ cZ h_p0 ad_p0 p0_places p0_steps p0_coloured post (va_A (wld_X5_exits cI cJ cZ h_p0 ad_p0 p0_places p0_steps p0_coloured) sz)) 0 0 (va_A (wld_X5_exits cI cJ cZ h_p0 ad_p0 p0_places p0_steps p0_coloured) sz) := by
  refine x_met (cc := cX5_exits) (maxL := 2) (ret := (some (.array .int))) (own := RX5) (Qc := fun A => (q_X5_exits dC dI cI cJ cZ h_p0 ad_p0 p0_places p0_steps p0_coloured post A)) (by decide) rfl rfl (Nat.le_of_ble_eq_true rfl) ?_
  intro p e s m args below meth c A ls E0 hP hD hS hl
  obtain ⟨hx, hb, hr, hml, hown, hts, hlocks, hK, hA, n1, n2⟩ := id E0
  have iX5 : ∀ w ∈ u_ws RX5 TX5 14, w ∈ wsX5_exits := fun w h => List.mem_cons_of_mem _ (List.mem_append_right _ h)
  have hS0 := hS
  have hl : lv_has ls 2 [(0, .ref h_p0), (1, .int a1)] := hl
  unfold w_X5_exits at hw
  obtain ⟨H, hH⟩ : ∃ H, H = s.heap := ⟨_, rfl⟩
  have hS : va_S A s.heap H [] := by rw [hH]; exact hS
  have hP : va_P (dC, dI) vwCl (wld_X5_exits cI cJ cZ h_p0 ad_p0 p0_places p0_steps p0_coloured) H := by rw [hH]; exact hP
  suffices hG : W p l e ({ frames := 0, cells := 0, slots := 0, locals := 0 }) s m args below meth c H [] 0 0 (MQ below (q_X5_exits dC dI cI cJ cZ h_p0 ad_p0 p0_places p0_steps p0_coloured post A) args s 0 0 A) (F0 m 0 ls []) by rw [hH] at hG; exact hG
  clear hH
  refine lv_iload_n hx hb dX5_exits_0 rfl (lv_at hl 1 rfl) ?_
  refine lv_if_ne (tgt := 11) hx hb dX5_exits_1 (by decide) (fun c1 => ?_) (fun c2 => ?_)
  · have hw := hw.1 c1
    refine lv_aload_n hx hb dX5_exits_11 rfl (lv_at hl 0 rfl) ?_
    refine va_get (D := (dC, dI)) (ci := 5) (v := .ref (ad_p0 9)) (C := RX5) (T := TX5) (N := 14) hx hb hts iX5 hown hK hP 0 rfl rfl 9 (by decide) (hts (.fieldLink RX5 39 "NetHouse$Net" "putsInto" "[I") (by decide +kernel)) (fun _ h9 => h9) rfl dX5_exits_12 ?_
    exact x_aret hx hb hr hlocks 1 rfl hw hP hD hS dX5_exits_15
  · have hw := hw.2 c2
    refine lv_aload_n hx hb dX5_exits_4 rfl (lv_at hl 0 rfl) ?_
    refine va_get (D := (dC, dI)) (ci := 5) (v := .ref (ad_p0 8)) (C := RX5) (T := TX5) (N := 14) hx hb hts iX5 hown hK hP 0 rfl rfl 8 (by decide) (hts (.fieldLink RX5 36 "NetHouse$Net" "takesFrom" "[I") (by decide +kernel)) (fun _ h9 => h9) rfl dX5_exits_5 ?_
    refine lv_goto (tgt := 15) hx hb dX5_exits_8 (by decide) ?_
    exact x_aret hx hb hr hlocks 0 rfl hw hP hD hS dX5_exits_15
abbrev wld_X5_greatestWithin (cI cJ cZ : ClassId) (h_p0 : Nat) (ad_p0 : Nat → Nat) (p0_places : Int32) (p0_steps : Int32) (p0_coloured : Int32) (p0_putsInto : Nat → Int32) (p0_takesFrom : Nat → Int32) : va_W := [(h_p0, .inr (5, [.ref (ad_p0 0), .ref (ad_p0 1), .ref (ad_p0 2), .ref (ad_p0 3), .ref (ad_p0 4), .ref (ad_p0 5), .ref (ad_p0 6), .ref (ad_p0 7), .ref (ad_p0 8), .ref (ad_p0 9), .ref (ad_p0 10), .int p0_places, .int p0_steps, .int p0_coloured])), ((ad_p0 9), .inl (cI, 16, .inl p0_putsInto)), ((ad_p0 8), .inl (cI, 16, .inl p0_takesFrom))]
abbrev q_X5_greatestWithin (dC : Nat → ClassId) (dI : Nat → Nat → Nat) (cI cJ cZ : ClassId) (h_p0 : Nat) (ad_p0 : Nat → Nat) (p0_places : Int32) (p0_steps : Int32) (p0_coloured : Int32) (p0_putsInto : Nat → Int32) (p0_takesFrom : Nat → Int32) (post : Int32 → Prop) (A : Nat → Prop) : Array Value → State → Outcome → State → Prop := va_Qi (fun r (u : Unit) => post r ) (fun (u : Unit) t => xPost (dC, dI) A (wld_X5_greatestWithin cI cJ cZ h_p0 ad_p0 p0_places p0_steps p0_coloured p0_putsInto p0_takesFrom) t) A
def w_X5_greatestWithin_L35b (v6 : Int32) (v7 : Int32) (p0_places : Int32) (p0_steps : Int32) (p0_putsInto : Nat → Int32) (p0_takesFrom : Nat → Int32) (post : Int32 → Prop) (K : (Int32) → (Int32) → Prop) (rec : (Int32) → (Int32) → Prop) (v5 : Int32) (v8 : Int32) : Prop :=
    (p0_steps ≤ v8 →
      K v5 v8) ∧
    (¬ p0_steps ≤ v8 →
      vp_in v8 16 ∧
      (((p0_putsInto v8.toNatClampNeg) &&& v5) = 0 →
        ∀ x7 : Int32, x7 = v8 + (1 : Int32) →
        rec v5 x7) ∧
      (¬ ((p0_putsInto v8.toNatClampNeg) &&& v5) = 0 →
        vp_in v8 16 ∧
        (¬ ((p0_takesFrom v8.toNatClampNeg) &&& v5) = 0 →
          ∀ x10 : Int32, x10 = v8 + (1 : Int32) →
          rec v5 x10) ∧
        (((p0_takesFrom v8.toNatClampNeg) &&& v5) = 0 →
          vp_in v8 16 ∧
          ∀ x11 : Int32, x11 = (v5 &&& ((p0_putsInto v8.toNatClampNeg) ^^^ (-1 : Int32))) →
          ∀ x12 : Int32, x12 = v8 + (1 : Int32) →
          rec x11 x12)))
def w_X5_greatestWithin_L35 (v6 : Int32) (v7 : Int32) (p0_places : Int32) (p0_steps : Int32) (p0_putsInto : Nat → Int32) (p0_takesFrom : Nat → Int32) (post : Int32 → Prop) (K : (Int32) → (Int32) → Prop) : Nat → (Int32) → (Int32) → Prop
  | 0, _, _ => False
  | n + 1, v5, v8 => w_X5_greatestWithin_L35b v6 v7 p0_places p0_steps p0_putsInto p0_takesFrom post K (w_X5_greatestWithin_L35 v6 v7 p0_places p0_steps p0_putsInto p0_takesFrom post K n) v5 v8
def w_X5_greatestWithin_L19b (p0_places : Int32) (p0_steps : Int32) (p0_putsInto : Nat → Int32) (p0_takesFrom : Nat → Int32) (post : Int32 → Prop) (K : (Int32) → (Int32) → Prop) (rec : (Int32) → (Int32) → Prop) (v5 : Int32) (v6 : Int32) : Prop :=
    (p0_places < v6 →
      K v5 v6) ∧
    (¬ p0_places < v6 →
      ∃ n : Nat, w_X5_greatestWithin_L35 v6 v5 p0_places p0_steps p0_putsInto p0_takesFrom post (fun v14 v15 =>
          (¬ v14 = v5 →
            ∀ x18 : Int32, x18 = v6 + (1 : Int32) →
            rec v14 x18) ∧
          (v14 = v5 →
            (post v14))) n v5 (0 : Int32))
def w_X5_greatestWithin_L19 (p0_places : Int32) (p0_steps : Int32) (p0_putsInto : Nat → Int32) (p0_takesFrom : Nat → Int32) (post : Int32 → Prop) (K : (Int32) → (Int32) → Prop) : Nat → (Int32) → (Int32) → Prop
  | 0, _, _ => False
  | n + 1, v5, v6 => w_X5_greatestWithin_L19b p0_places p0_steps p0_putsInto p0_takesFrom post K (w_X5_greatestWithin_L19 p0_places p0_steps p0_putsInto p0_takesFrom post K n) v5 v6
def w_X5_greatestWithin_L35_1b (v6 : Int32) (v7 : Int32) (p0_places : Int32) (p0_steps : Int32) (p0_putsInto : Nat → Int32) (p0_takesFrom : Nat → Int32) (post : Int32 → Prop) (K : (Int32) → (Int32) → Prop) (rec : (Int32) → (Int32) → Prop) (v5 : Int32) (v8 : Int32) : Prop :=
    (p0_steps ≤ v8 →
      K v5 v8) ∧
    (¬ p0_steps ≤ v8 →
      vp_in v8 16 ∧
      (((p0_putsInto v8.toNatClampNeg) &&& v5) = 0 →
        ∀ x28 : Int32, x28 = v8 + (1 : Int32) →
        rec v5 x28) ∧
      (¬ ((p0_putsInto v8.toNatClampNeg) &&& v5) = 0 →
        vp_in v8 16 ∧
        (¬ ((p0_putsInto v8.toNatClampNeg) &&& v5) = 0 →
          ∀ x31 : Int32, x31 = v8 + (1 : Int32) →
          rec v5 x31) ∧
        (((p0_putsInto v8.toNatClampNeg) &&& v5) = 0 →
          vp_in v8 16 ∧
          ∀ x32 : Int32, x32 = (v5 &&& ((p0_putsInto v8.toNatClampNeg) ^^^ (-1 : Int32))) →
          ∀ x33 : Int32, x33 = v8 + (1 : Int32) →
          rec x32 x33)))
def w_X5_greatestWithin_L35_1 (v6 : Int32) (v7 : Int32) (p0_places : Int32) (p0_steps : Int32) (p0_putsInto : Nat → Int32) (p0_takesFrom : Nat → Int32) (post : Int32 → Prop) (K : (Int32) → (Int32) → Prop) : Nat → (Int32) → (Int32) → Prop
  | 0, _, _ => False
  | n + 1, v5, v8 => w_X5_greatestWithin_L35_1b v6 v7 p0_places p0_steps p0_putsInto p0_takesFrom post K (w_X5_greatestWithin_L35_1 v6 v7 p0_places p0_steps p0_putsInto p0_takesFrom post K n) v5 v8
def w_X5_greatestWithin_L19_1b (p0_places : Int32) (p0_steps : Int32) (p0_putsInto : Nat → Int32) (p0_takesFrom : Nat → Int32) (post : Int32 → Prop) (K : (Int32) → (Int32) → Prop) (rec : (Int32) → (Int32) → Prop) (v5 : Int32) (v6 : Int32) : Prop :=
    (p0_places < v6 →
      K v5 v6) ∧
    (¬ p0_places < v6 →
      ∃ n : Nat, w_X5_greatestWithin_L35_1 v6 v5 p0_places p0_steps p0_putsInto p0_takesFrom post (fun v35 v36 =>
          (¬ v35 = v5 →
            ∀ x39 : Int32, x39 = v6 + (1 : Int32) →
            rec v35 x39) ∧
          (v35 = v5 →
            (post v35))) n v5 (0 : Int32))
def w_X5_greatestWithin_L19_1 (p0_places : Int32) (p0_steps : Int32) (p0_putsInto : Nat → Int32) (p0_takesFrom : Nat → Int32) (post : Int32 → Prop) (K : (Int32) → (Int32) → Prop) : Nat → (Int32) → (Int32) → Prop
  | 0, _, _ => False
  | n + 1, v5, v6 => w_X5_greatestWithin_L19_1b p0_places p0_steps p0_putsInto p0_takesFrom post K (w_X5_greatestWithin_L19_1 p0_places p0_steps p0_putsInto p0_takesFrom post K n) v5 v6
def w_X5_greatestWithin_L35_2b (v6 : Int32) (v7 : Int32) (p0_places : Int32) (p0_steps : Int32) (p0_putsInto : Nat → Int32) (p0_takesFrom : Nat → Int32) (post : Int32 → Prop) (K : (Int32) → (Int32) → Prop) (rec : (Int32) → (Int32) → Prop) (v5 : Int32) (v8 : Int32) : Prop :=
    (p0_steps ≤ v8 →
      K v5 v8) ∧
    (¬ p0_steps ≤ v8 →
      vp_in v8 16 ∧
      (((p0_takesFrom v8.toNatClampNeg) &&& v5) = 0 →
        ∀ x49 : Int32, x49 = v8 + (1 : Int32) →
        rec v5 x49) ∧
      (¬ ((p0_takesFrom v8.toNatClampNeg) &&& v5) = 0 →
        vp_in v8 16 ∧
        (¬ ((p0_takesFrom v8.toNatClampNeg) &&& v5) = 0 →
          ∀ x52 : Int32, x52 = v8 + (1 : Int32) →
          rec v5 x52) ∧
        (((p0_takesFrom v8.toNatClampNeg) &&& v5) = 0 →
          vp_in v8 16 ∧
          ∀ x53 : Int32, x53 = (v5 &&& ((p0_takesFrom v8.toNatClampNeg) ^^^ (-1 : Int32))) →
          ∀ x54 : Int32, x54 = v8 + (1 : Int32) →
          rec x53 x54)))
def w_X5_greatestWithin_L35_2 (v6 : Int32) (v7 : Int32) (p0_places : Int32) (p0_steps : Int32) (p0_putsInto : Nat → Int32) (p0_takesFrom : Nat → Int32) (post : Int32 → Prop) (K : (Int32) → (Int32) → Prop) : Nat → (Int32) → (Int32) → Prop
  | 0, _, _ => False
  | n + 1, v5, v8 => w_X5_greatestWithin_L35_2b v6 v7 p0_places p0_steps p0_putsInto p0_takesFrom post K (w_X5_greatestWithin_L35_2 v6 v7 p0_places p0_steps p0_putsInto p0_takesFrom post K n) v5 v8
def w_X5_greatestWithin_L19_2b (p0_places : Int32) (p0_steps : Int32) (p0_putsInto : Nat → Int32) (p0_takesFrom : Nat → Int32) (post : Int32 → Prop) (K : (Int32) → (Int32) → Prop) (rec : (Int32) → (Int32) → Prop) (v5 : Int32) (v6 : Int32) : Prop :=
    (p0_places < v6 →
      K v5 v6) ∧
    (¬ p0_places < v6 →
      ∃ n : Nat, w_X5_greatestWithin_L35_2 v6 v5 p0_places p0_steps p0_putsInto p0_takesFrom post (fun v56 v57 =>
          (¬ v56 = v5 →
            ∀ x60 : Int32, x60 = v6 + (1 : Int32) →
            rec v56 x60) ∧
          (v56 = v5 →
            (post v56))) n v5 (0 : Int32))
def w_X5_greatestWithin_L19_2 (p0_places : Int32) (p0_steps : Int32) (p0_putsInto : Nat → Int32) (p0_takesFrom : Nat → Int32) (post : Int32 → Prop) (K : (Int32) → (Int32) → Prop) : Nat → (Int32) → (Int32) → Prop
  | 0, _, _ => False
  | n + 1, v5, v6 => w_X5_greatestWithin_L19_2b p0_places p0_steps p0_putsInto p0_takesFrom post K (w_X5_greatestWithin_L19_2 p0_places p0_steps p0_putsInto p0_takesFrom post K n) v5 v6
def w_X5_greatestWithin_L35_3b (v6 : Int32) (v7 : Int32) (p0_places : Int32) (p0_steps : Int32) (p0_putsInto : Nat → Int32) (p0_takesFrom : Nat → Int32) (post : Int32 → Prop) (K : (Int32) → (Int32) → Prop) (rec : (Int32) → (Int32) → Prop) (v5 : Int32) (v8 : Int32) : Prop :=
    (p0_steps ≤ v8 →
      K v5 v8) ∧
    (¬ p0_steps ≤ v8 →
      vp_in v8 16 ∧
      (((p0_takesFrom v8.toNatClampNeg) &&& v5) = 0 →
        ∀ x70 : Int32, x70 = v8 + (1 : Int32) →
        rec v5 x70) ∧
      (¬ ((p0_takesFrom v8.toNatClampNeg) &&& v5) = 0 →
        vp_in v8 16 ∧
        (¬ ((p0_putsInto v8.toNatClampNeg) &&& v5) = 0 →
          ∀ x73 : Int32, x73 = v8 + (1 : Int32) →
          rec v5 x73) ∧
        (((p0_putsInto v8.toNatClampNeg) &&& v5) = 0 →
          vp_in v8 16 ∧
          ∀ x74 : Int32, x74 = (v5 &&& ((p0_takesFrom v8.toNatClampNeg) ^^^ (-1 : Int32))) →
          ∀ x75 : Int32, x75 = v8 + (1 : Int32) →
          rec x74 x75)))
def w_X5_greatestWithin_L35_3 (v6 : Int32) (v7 : Int32) (p0_places : Int32) (p0_steps : Int32) (p0_putsInto : Nat → Int32) (p0_takesFrom : Nat → Int32) (post : Int32 → Prop) (K : (Int32) → (Int32) → Prop) : Nat → (Int32) → (Int32) → Prop
  | 0, _, _ => False
  | n + 1, v5, v8 => w_X5_greatestWithin_L35_3b v6 v7 p0_places p0_steps p0_putsInto p0_takesFrom post K (w_X5_greatestWithin_L35_3 v6 v7 p0_places p0_steps p0_putsInto p0_takesFrom post K n) v5 v8
def w_X5_greatestWithin_L19_3b (p0_places : Int32) (p0_steps : Int32) (p0_putsInto : Nat → Int32) (p0_takesFrom : Nat → Int32) (post : Int32 → Prop) (K : (Int32) → (Int32) → Prop) (rec : (Int32) → (Int32) → Prop) (v5 : Int32) (v6 : Int32) : Prop :=
    (p0_places < v6 →
      K v5 v6) ∧
    (¬ p0_places < v6 →
      ∃ n : Nat, w_X5_greatestWithin_L35_3 v6 v5 p0_places p0_steps p0_putsInto p0_takesFrom post (fun v77 v78 =>
          (¬ v77 = v5 →
            ∀ x81 : Int32, x81 = v6 + (1 : Int32) →
            rec v77 x81) ∧
          (v77 = v5 →
            (post v77))) n v5 (0 : Int32))
def w_X5_greatestWithin_L19_3 (p0_places : Int32) (p0_steps : Int32) (p0_putsInto : Nat → Int32) (p0_takesFrom : Nat → Int32) (post : Int32 → Prop) (K : (Int32) → (Int32) → Prop) : Nat → (Int32) → (Int32) → Prop
  | 0, _, _ => False
  | n + 1, v5, v6 => w_X5_greatestWithin_L19_3b p0_places p0_steps p0_putsInto p0_takesFrom post K (w_X5_greatestWithin_L19_3 p0_places p0_steps p0_putsInto p0_takesFrom post K n) v5 v6
def w_X5_greatestWithin (p0_places : Int32) (p0_steps : Int32) (p0_putsInto : Nat → Int32) (p0_takesFrom : Nat → Int32) (a1 : Int32) (a2 : Int32) (post : Int32 → Prop) : Prop :=
  w_X5_entries a2 (fun u =>
  (u = 0 →
    w_X5_exits a2 (fun u =>
    (u = 0 →
      ∃ n : Nat, w_X5_greatestWithin_L19 p0_places p0_steps p0_putsInto p0_takesFrom post (fun v20 v21 =>
          (post v20)) n a1 (0 : Int32)) ∧
    (¬ u = 0 →
      ∃ n : Nat, w_X5_greatestWithin_L19_1 p0_places p0_steps p0_putsInto p0_takesFrom post (fun v41 v42 =>
          (post v41)) n a1 (0 : Int32)))) ∧
  (¬ u = 0 →
    w_X5_exits a2 (fun u =>
    (u = 0 →
      ∃ n : Nat, w_X5_greatestWithin_L19_2 p0_places p0_steps p0_putsInto p0_takesFrom post (fun v62 v63 =>
          (post v62)) n a1 (0 : Int32)) ∧
    (¬ u = 0 →
      ∃ n : Nat, w_X5_greatestWithin_L19_3 p0_places p0_steps p0_putsInto p0_takesFrom post (fun v83 v84 =>
          (post v83)) n a1 (0 : Int32)))))
set_option maxHeartbeats 4000000 in
set_option maxRecDepth 100000 in
theorem c_X5_greatestWithin_L35 {p : Program} {l : Launch} {e : Env} {s : State} {m : MethodId} {args : Array Value} {below : List Frame} {meth : Method} {c : Code} {dC : Nat → ClassId} {dI : Nat → Nat → Nat} {A : Nat → Prop} {cI cJ cZ : ClassId} {h_p0 : Nat} {ad_p0 : Nat → Nat} {p0_places : Int32} {p0_steps : Int32} {p0_coloured : Int32} {p0_putsInto : Nat → Int32} {p0_takesFrom : Nat → Int32} {v6 : Int32} {v7 : Int32}  {post : Int32 → Prop} {K : (Int32) → (Int32) → Prop} (E0 : xEnv p s m args meth c cX5_greatestWithin (some .int) 9 RX5 wsX5_greatestWithin (dC, dI) cI cJ cZ A) (hk : ∀ (v5 : Int32) (v8 : Int32) (H : Heap) (locs : List Loc) (ls : Array Slot), K v5 v8 → va_P (dC, dI) vwCl (wld_X5_greatestWithin cI cJ cZ h_p0 ad_p0 p0_places p0_steps p0_coloured p0_putsInto p0_takesFrom) H → va_D A (wld_X5_greatestWithin cI cJ cZ h_p0 ad_p0 p0_places p0_steps p0_coloured p0_putsInto p0_takesFrom) → va_S A s.heap H locs → lv_has ls 9 [(0, .ref h_p0), (3, .ref (ad_p0 9)), (4, .ref (ad_p0 8)), (5, .int v5), (6, .int v6), (7, .int v7)] → W p l e ({ frames := 1, cells := 0, slots := 0, locals := 21 }) s m args below meth c H locs 0 0 (MQ below (q_X5_greatestWithin dC dI cI cJ cZ h_p0 ad_p0 p0_places p0_steps p0_coloured p0_putsInto p0_takesFrom post A) args s 0 0 A) (F0 m 82 ls [])) : ∀ (n : Nat) (v5 : Int32) (v8 : Int32), w_X5_greatestWithin_L35 v6 v7 p0_places p0_steps p0_putsInto p0_takesFrom post K n v5 v8 → ∀ (H : Heap) (locs : List Loc) (ls : Array Slot), va_P (dC, dI) vwCl (wld_X5_greatestWithin cI cJ cZ h_p0 ad_p0 p0_places p0_steps p0_coloured p0_putsInto p0_takesFrom) H → va_D A (wld_X5_greatestWithin cI cJ cZ h_p0 ad_p0 p0_places p0_steps p0_coloured p0_putsInto p0_takesFrom) → va_S A s.heap H locs → lv_has ls 9 [(0, .ref h_p0), (3, .ref (ad_p0 9)), (4, .ref (ad_p0 8)), (5, .int v5), (6, .int v6), (7, .int v7), (8, .int v8)] → W p l e ({ frames := 1, cells := 0, slots := 0, locals := 21 }) s m args below meth c H locs 0 0 (MQ below (q_X5_greatestWithin dC dI cI cJ cZ h_p0 ad_p0 p0_places p0_steps p0_coloured p0_putsInto p0_takesFrom post A) args s 0 0 A) (F0 m 35 ls []) := by
  obtain ⟨hx, hb, hr, hml, hown, hts, hlocks, hK, hA, n1, n2⟩ := id E0
  have iX5 : ∀ w ∈ u_ws RX5 TX5 14, w ∈ wsX5_greatestWithin := fun w h => List.mem_cons_of_mem _ (List.mem_append_right _ h)
  intro n
  induction n with
  | zero => intro v5 v8 hw; exact hw.elim
  | succ n ih =>
    intro v5 v8 hw H locs ls hP hD hS hl
    have hw : w_X5_greatestWithin_L35b v6 v7 p0_places p0_steps p0_putsInto p0_takesFrom post K (w_X5_greatestWithin_L35 v6 v7 p0_places p0_steps p0_putsInto p0_takesFrom post K n) v5 v8 := hw
    unfold w_X5_greatestWithin_L35b at hw
    refine lv_iload hx hb dX5_greatestWithin_35 (lv_at hl 6 rfl) ?_
    refine lv_aload_n hx hb dX5_greatestWithin_37 rfl (lv_at hl 0 rfl) ?_
    refine va_get (D := (dC, dI)) (ci := 5) (v := .int p0_steps) (C := RX5) (T := TX5) (N := 14) hx hb hts iX5 hown hK hP 0 rfl rfl 12 (by decide) (hts (.fieldLink RX5 49 "NetHouse$Net" "steps" "I") (by decide +kernel)) (fun _ h9 => h9) rfl dX5_greatestWithin_38 ?_
    refine lv_icmp_ge (tgt := 82) hx hb dX5_greatestWithin_41 (by decide) (fun c3 => ?_) (fun c4 => ?_)
    · have hw := hw.1 c3
      exact hk _ _ _ _ _ hw hP hD hS (lv_sub hl [0, 1, 2, 3, 4, 5] rfl)
    · have hw := hw.2 c4
      refine lv_aload_n hx hb dX5_greatestWithin_44 rfl (lv_at hl 1 rfl) ?_
      refine lv_iload hx hb dX5_greatestWithin_45 (lv_at hl 6 rfl) ?_
      refine va_iald hx hb hK hP 1 0 rfl rfl hw.1 dX5_greatestWithin_47 ?_
      have hw := hw.2
      refine lv_iload hx hb dX5_greatestWithin_48 (lv_at hl 3 rfl) ?_
      refine lv_iand hx hb dX5_greatestWithin_50 ?_
      refine lv_if_eq (tgt := 76) hx hb dX5_greatestWithin_51 (by decide) (fun c5 => ?_) (fun c6 => ?_)
      · have hw := hw.1 c5
        obtain ⟨x7, ex7⟩ : ∃ y : Int32, y = v8 + (1 : Int32) := ⟨_, rfl⟩
        have hw := hw x7 ex7
        refine lv_iinc (v := x7) (lv' := [(8, .int x7), (0, .ref h_p0), (3, .ref (ad_p0 9)), (4, .ref (ad_p0 8)), (5, .int v5), (6, .int v6), (7, .int v7)]) hx hb dX5_greatestWithin_76 hl (k := 6) rfl (by rw [ex7]; rfl) (by decide) rfl (fun ls hl => ?_)
        refine lv_goto (tgt := 35) hx hb dX5_greatestWithin_79 (by decide) ?_
        exact ih _ _ hw _ _ _ hP hD hS (lv_sub hl [1, 2, 3, 4, 5, 6, 0] rfl)
      · have hw := hw.2 c6
        refine lv_aload hx hb dX5_greatestWithin_54 (lv_at hl 2 rfl) ?_
        refine lv_iload hx hb dX5_greatestWithin_56 (lv_at hl 6 rfl) ?_
        refine va_iald hx hb hK hP 2 0 rfl rfl hw.1 dX5_greatestWithin_58 ?_
        have hw := hw.2
        refine lv_iload hx hb dX5_greatestWithin_59 (lv_at hl 3 rfl) ?_
        refine lv_iand hx hb dX5_greatestWithin_61 ?_
        refine lv_if_ne (tgt := 76) hx hb dX5_greatestWithin_62 (by decide) (fun c8 => ?_) (fun c9 => ?_)
        · have hw := hw.1 c8
          obtain ⟨x10, ex10⟩ : ∃ y : Int32, y = v8 + (1 : Int32) := ⟨_, rfl⟩
          have hw := hw x10 ex10
          refine lv_iinc (v := x10) (lv' := [(8, .int x10), (0, .ref h_p0), (3, .ref (ad_p0 9)), (4, .ref (ad_p0 8)), (5, .int v5), (6, .int v6), (7, .int v7)]) hx hb dX5_greatestWithin_76 hl (k := 6) rfl (by rw [ex10]; rfl) (by decide) rfl (fun ls hl => ?_)
          refine lv_goto (tgt := 35) hx hb dX5_greatestWithin_79 (by decide) ?_
          exact ih _ _ hw _ _ _ hP hD hS (lv_sub hl [1, 2, 3, 4, 5, 6, 0] rfl)
        · have hw := hw.2 c9
          refine lv_iload hx hb dX5_greatestWithin_65 (lv_at hl 3 rfl) ?_
          refine lv_aload_n hx hb dX5_greatestWithin_67 rfl (lv_at hl 1 rfl) ?_
          refine lv_iload hx hb dX5_greatestWithin_68 (lv_at hl 6 rfl) ?_
          refine va_iald hx hb hK hP 1 0 rfl rfl hw.1 dX5_greatestWithin_70 ?_
          have hw := hw.2
          refine lv_iconst (v := -1) hx hb dX5_greatestWithin_71 (by decide) ?_
          refine lv_ixor hx hb dX5_greatestWithin_72 ?_
          refine lv_iand hx hb dX5_greatestWithin_73 ?_
          refine lv_topi (fun x11 ex11 => ?_)
          have hw := hw x11 ex11
          refine lv_istore (lv' := [(5, .int x11), (0, .ref h_p0), (3, .ref (ad_p0 9)), (4, .ref (ad_p0 8)), (6, .int v6), (7, .int v7), (8, .int v8)]) hx hb dX5_greatestWithin_74 hl (by decide) rfl (fun ls hl => ?_)
          obtain ⟨x12, ex12⟩ : ∃ y : Int32, y = v8 + (1 : Int32) := ⟨_, rfl⟩
          have hw := hw x12 ex12
          refine lv_iinc (v := x12) (lv' := [(8, .int x12), (5, .int x11), (0, .ref h_p0), (3, .ref (ad_p0 9)), (4, .ref (ad_p0 8)), (6, .int v6), (7, .int v7)]) hx hb dX5_greatestWithin_76 hl (k := 6) rfl (by rw [ex12]; rfl) (by decide) rfl (fun ls hl => ?_)
          refine lv_goto (tgt := 35) hx hb dX5_greatestWithin_79 (by decide) ?_
          exact ih _ _ hw _ _ _ hP hD hS (lv_sub hl [2, 3, 4, 1, 5, 6, 0] rfl)
set_option maxHeartbeats 4000000 in
set_option maxRecDepth 100000 in
theorem c_X5_greatestWithin_L19 {p : Program} {l : Launch} {e : Env} {s : State} {m : MethodId} {args : Array Value} {below : List Frame} {meth : Method} {c : Code} {dC : Nat → ClassId} {dI : Nat → Nat → Nat} {A : Nat → Prop} {cI cJ cZ : ClassId} {h_p0 : Nat} {ad_p0 : Nat → Nat} {p0_places : Int32} {p0_steps : Int32} {p0_coloured : Int32} {p0_putsInto : Nat → Int32} {p0_takesFrom : Nat → Int32}  {post : Int32 → Prop} {K : (Int32) → (Int32) → Prop} (E0 : xEnv p s m args meth c cX5_greatestWithin (some .int) 9 RX5 wsX5_greatestWithin (dC, dI) cI cJ cZ A) (hk : ∀ (v5 : Int32) (v6 : Int32) (H : Heap) (locs : List Loc) (ls : Array Slot), K v5 v6 → va_P (dC, dI) vwCl (wld_X5_greatestWithin cI cJ cZ h_p0 ad_p0 p0_places p0_steps p0_coloured p0_putsInto p0_takesFrom) H → va_D A (wld_X5_greatestWithin cI cJ cZ h_p0 ad_p0 p0_places p0_steps p0_coloured p0_putsInto p0_takesFrom) → va_S A s.heap H locs → lv_has ls 9 [(5, .int v5)] → W p l e ({ frames := 1, cells := 0, slots := 0, locals := 21 }) s m args below meth c H locs 0 0 (MQ below (q_X5_greatestWithin dC dI cI cJ cZ h_p0 ad_p0 p0_places p0_steps p0_coloured p0_putsInto p0_takesFrom post A) args s 0 0 A) (F0 m 98 ls [])) : ∀ (n : Nat) (v5 : Int32) (v6 : Int32), w_X5_greatestWithin_L19 p0_places p0_steps p0_putsInto p0_takesFrom post K n v5 v6 → ∀ (H : Heap) (locs : List Loc) (ls : Array Slot), va_P (dC, dI) vwCl (wld_X5_greatestWithin cI cJ cZ h_p0 ad_p0 p0_places p0_steps p0_coloured p0_putsInto p0_takesFrom) H → va_D A (wld_X5_greatestWithin cI cJ cZ h_p0 ad_p0 p0_places p0_steps p0_coloured p0_putsInto p0_takesFrom) → va_S A s.heap H locs → lv_has ls 9 [(0, .ref h_p0), (3, .ref (ad_p0 9)), (4, .ref (ad_p0 8)), (5, .int v5), (6, .int v6)] → W p l e ({ frames := 1, cells := 0, slots := 0, locals := 21 }) s m args below meth c H locs 0 0 (MQ below (q_X5_greatestWithin dC dI cI cJ cZ h_p0 ad_p0 p0_places p0_steps p0_coloured p0_putsInto p0_takesFrom post A) args s 0 0 A) (F0 m 19 ls []) := by
  obtain ⟨hx, hb, hr, hml, hown, hts, hlocks, hK, hA, n1, n2⟩ := id E0
  have iX5 : ∀ w ∈ u_ws RX5 TX5 14, w ∈ wsX5_greatestWithin := fun w h => List.mem_cons_of_mem _ (List.mem_append_right _ h)
  intro n
  induction n with
  | zero => intro v5 v6 hw; exact hw.elim
  | succ n ih =>
    intro v5 v6 hw H locs ls hP hD hS hl
    have hw : w_X5_greatestWithin_L19b p0_places p0_steps p0_putsInto p0_takesFrom post K (w_X5_greatestWithin_L19 p0_places p0_steps p0_putsInto p0_takesFrom post K n) v5 v6 := hw
    unfold w_X5_greatestWithin_L19b at hw
    refine lv_iload hx hb dX5_greatestWithin_19 (lv_at hl 4 rfl) ?_
    refine lv_aload_n hx hb dX5_greatestWithin_21 rfl (lv_at hl 0 rfl) ?_
    refine va_get (D := (dC, dI)) (ci := 5) (v := .int p0_places) (C := RX5) (T := TX5) (N := 14) hx hb hts iX5 hown hK hP 0 rfl rfl 11 (by decide) (hts (.fieldLink RX5 45 "NetHouse$Net" "places" "I") (by decide +kernel)) (fun _ h9 => h9) rfl dX5_greatestWithin_22 ?_
    refine lv_icmp_gt (tgt := 98) hx hb dX5_greatestWithin_25 (by decide) (fun c1 => ?_) (fun c2 => ?_)
    · have hw := hw.1 c1
      exact hk _ _ _ _ _ hw hP hD hS (lv_sub hl [3] rfl)
    · have hw := hw.2 c2
      refine lv_iload hx hb dX5_greatestWithin_28 (lv_at hl 3 rfl) ?_
      refine lv_istore (lv' := [(7, .int v5), (0, .ref h_p0), (3, .ref (ad_p0 9)), (4, .ref (ad_p0 8)), (5, .int v5), (6, .int v6)]) hx hb dX5_greatestWithin_30 hl (by decide) rfl (fun ls hl => ?_)
      refine lv_iconst (v := 0) hx hb dX5_greatestWithin_32 (by decide) ?_
      refine lv_istore (lv' := [(8, .int (0 : Int32)), (7, .int v5), (0, .ref h_p0), (3, .ref (ad_p0 9)), (4, .ref (ad_p0 8)), (5, .int v5), (6, .int v6)]) hx hb dX5_greatestWithin_33 hl (by decide) rfl (fun ls hl => ?_)
      obtain ⟨n13, hw⟩ := hw
      refine c_X5_greatestWithin_L35 (l := l)  E0 ?_ n13 _ _ hw _ _ _ hP hD hS (lv_sub hl [2, 3, 4, 5, 6, 1, 0] rfl)
      · intro v14 v15 H locs ls hw hP hD hS hl
        have hP : va_P (dC, dI) vwCl (wld_X5_greatestWithin cI cJ cZ h_p0 ad_p0 p0_places p0_steps p0_coloured p0_putsInto p0_takesFrom) H := hP
        have hD : va_D A (wld_X5_greatestWithin cI cJ cZ h_p0 ad_p0 p0_places p0_steps p0_coloured p0_putsInto p0_takesFrom) := hD
        refine lv_iload hx hb dX5_greatestWithin_82 (lv_at hl 3 rfl) ?_
        refine lv_iload hx hb dX5_greatestWithin_84 (lv_at hl 5 rfl) ?_
        refine lv_icmp_ne (tgt := 92) hx hb dX5_greatestWithin_86 (by decide) (fun c16 => ?_) (fun c17 => ?_)
        · have hw := hw.1 c16
          obtain ⟨x18, ex18⟩ : ∃ y : Int32, y = v6 + (1 : Int32) := ⟨_, rfl⟩
          have hw := hw x18 ex18
          refine lv_iinc (v := x18) (lv' := [(6, .int x18), (0, .ref h_p0), (3, .ref (ad_p0 9)), (4, .ref (ad_p0 8)), (5, .int v14), (7, .int v5)]) hx hb dX5_greatestWithin_92 hl (k := 4) rfl (by rw [ex18]; rfl) (by decide) rfl (fun ls hl => ?_)
          refine lv_goto (tgt := 19) hx hb dX5_greatestWithin_95 (by decide) ?_
          exact ih _ _ hw _ _ _ hP hD hS (lv_sub hl [1, 2, 3, 4, 0] rfl)
        · have hw := hw.2 c17
          refine lv_iload hx hb dX5_greatestWithin_89 (lv_at hl 3 rfl) ?_
          exact x_iret (w1 := fun (u : Unit) => (wld_X5_greatestWithin cI cJ cZ h_p0 ad_p0 p0_places p0_steps p0_coloured p0_putsInto p0_takesFrom)) hx hb hr hlocks () hw hP hD hS dX5_greatestWithin_91
set_option maxHeartbeats 4000000 in
set_option maxRecDepth 100000 in
theorem c_X5_greatestWithin_L35_1 {p : Program} {l : Launch} {e : Env} {s : State} {m : MethodId} {args : Array Value} {below : List Frame} {meth : Method} {c : Code} {dC : Nat → ClassId} {dI : Nat → Nat → Nat} {A : Nat → Prop} {cI cJ cZ : ClassId} {h_p0 : Nat} {ad_p0 : Nat → Nat} {p0_places : Int32} {p0_steps : Int32} {p0_coloured : Int32} {p0_putsInto : Nat → Int32} {p0_takesFrom : Nat → Int32} {v6 : Int32} {v7 : Int32}  {post : Int32 → Prop} {K : (Int32) → (Int32) → Prop} (E0 : xEnv p s m args meth c cX5_greatestWithin (some .int) 9 RX5 wsX5_greatestWithin (dC, dI) cI cJ cZ A) (hk : ∀ (v5 : Int32) (v8 : Int32) (H : Heap) (locs : List Loc) (ls : Array Slot), K v5 v8 → va_P (dC, dI) vwCl (wld_X5_greatestWithin cI cJ cZ h_p0 ad_p0 p0_places p0_steps p0_coloured p0_putsInto p0_takesFrom) H → va_D A (wld_X5_greatestWithin cI cJ cZ h_p0 ad_p0 p0_places p0_steps p0_coloured p0_putsInto p0_takesFrom) → va_S A s.heap H locs → lv_has ls 9 [(0, .ref h_p0), (3, .ref (ad_p0 9)), (4, .ref (ad_p0 9)), (5, .int v5), (6, .int v6), (7, .int v7)] → W p l e ({ frames := 1, cells := 0, slots := 0, locals := 21 }) s m args below meth c H locs 0 0 (MQ below (q_X5_greatestWithin dC dI cI cJ cZ h_p0 ad_p0 p0_places p0_steps p0_coloured p0_putsInto p0_takesFrom post A) args s 0 0 A) (F0 m 82 ls [])) : ∀ (n : Nat) (v5 : Int32) (v8 : Int32), w_X5_greatestWithin_L35_1 v6 v7 p0_places p0_steps p0_putsInto p0_takesFrom post K n v5 v8 → ∀ (H : Heap) (locs : List Loc) (ls : Array Slot), va_P (dC, dI) vwCl (wld_X5_greatestWithin cI cJ cZ h_p0 ad_p0 p0_places p0_steps p0_coloured p0_putsInto p0_takesFrom) H → va_D A (wld_X5_greatestWithin cI cJ cZ h_p0 ad_p0 p0_places p0_steps p0_coloured p0_putsInto p0_takesFrom) → va_S A s.heap H locs → lv_has ls 9 [(0, .ref h_p0), (3, .ref (ad_p0 9)), (4, .ref (ad_p0 9)), (5, .int v5), (6, .int v6), (7, .int v7), (8, .int v8)] → W p l e ({ frames := 1, cells := 0, slots := 0, locals := 21 }) s m args below meth c H locs 0 0 (MQ below (q_X5_greatestWithin dC dI cI cJ cZ h_p0 ad_p0 p0_places p0_steps p0_coloured p0_putsInto p0_takesFrom post A) args s 0 0 A) (F0 m 35 ls []) := by
  obtain ⟨hx, hb, hr, hml, hown, hts, hlocks, hK, hA, n1, n2⟩ := id E0
  have iX5 : ∀ w ∈ u_ws RX5 TX5 14, w ∈ wsX5_greatestWithin := fun w h => List.mem_cons_of_mem _ (List.mem_append_right _ h)
  intro n
  induction n with
  | zero => intro v5 v8 hw; exact hw.elim
  | succ n ih =>
    intro v5 v8 hw H locs ls hP hD hS hl
    have hw : w_X5_greatestWithin_L35_1b v6 v7 p0_places p0_steps p0_putsInto p0_takesFrom post K (w_X5_greatestWithin_L35_1 v6 v7 p0_places p0_steps p0_putsInto p0_takesFrom post K n) v5 v8 := hw
    unfold w_X5_greatestWithin_L35_1b at hw
    refine lv_iload hx hb dX5_greatestWithin_35 (lv_at hl 6 rfl) ?_
    refine lv_aload_n hx hb dX5_greatestWithin_37 rfl (lv_at hl 0 rfl) ?_
    refine va_get (D := (dC, dI)) (ci := 5) (v := .int p0_steps) (C := RX5) (T := TX5) (N := 14) hx hb hts iX5 hown hK hP 0 rfl rfl 12 (by decide) (hts (.fieldLink RX5 49 "NetHouse$Net" "steps" "I") (by decide +kernel)) (fun _ h9 => h9) rfl dX5_greatestWithin_38 ?_
    refine lv_icmp_ge (tgt := 82) hx hb dX5_greatestWithin_41 (by decide) (fun c24 => ?_) (fun c25 => ?_)
    · have hw := hw.1 c24
      exact hk _ _ _ _ _ hw hP hD hS (lv_sub hl [0, 1, 2, 3, 4, 5] rfl)
    · have hw := hw.2 c25
      refine lv_aload_n hx hb dX5_greatestWithin_44 rfl (lv_at hl 1 rfl) ?_
      refine lv_iload hx hb dX5_greatestWithin_45 (lv_at hl 6 rfl) ?_
      refine va_iald hx hb hK hP 1 0 rfl rfl hw.1 dX5_greatestWithin_47 ?_
      have hw := hw.2
      refine lv_iload hx hb dX5_greatestWithin_48 (lv_at hl 3 rfl) ?_
      refine lv_iand hx hb dX5_greatestWithin_50 ?_
      refine lv_if_eq (tgt := 76) hx hb dX5_greatestWithin_51 (by decide) (fun c26 => ?_) (fun c27 => ?_)
      · have hw := hw.1 c26
        obtain ⟨x28, ex28⟩ : ∃ y : Int32, y = v8 + (1 : Int32) := ⟨_, rfl⟩
        have hw := hw x28 ex28
        refine lv_iinc (v := x28) (lv' := [(8, .int x28), (0, .ref h_p0), (3, .ref (ad_p0 9)), (4, .ref (ad_p0 9)), (5, .int v5), (6, .int v6), (7, .int v7)]) hx hb dX5_greatestWithin_76 hl (k := 6) rfl (by rw [ex28]; rfl) (by decide) rfl (fun ls hl => ?_)
        refine lv_goto (tgt := 35) hx hb dX5_greatestWithin_79 (by decide) ?_
        exact ih _ _ hw _ _ _ hP hD hS (lv_sub hl [1, 2, 3, 4, 5, 6, 0] rfl)
      · have hw := hw.2 c27
        refine lv_aload hx hb dX5_greatestWithin_54 (lv_at hl 2 rfl) ?_
        refine lv_iload hx hb dX5_greatestWithin_56 (lv_at hl 6 rfl) ?_
        refine va_iald hx hb hK hP 1 0 rfl rfl hw.1 dX5_greatestWithin_58 ?_
        have hw := hw.2
        refine lv_iload hx hb dX5_greatestWithin_59 (lv_at hl 3 rfl) ?_
        refine lv_iand hx hb dX5_greatestWithin_61 ?_
        refine lv_if_ne (tgt := 76) hx hb dX5_greatestWithin_62 (by decide) (fun c29 => ?_) (fun c30 => ?_)
        · have hw := hw.1 c29
          obtain ⟨x31, ex31⟩ : ∃ y : Int32, y = v8 + (1 : Int32) := ⟨_, rfl⟩
          have hw := hw x31 ex31
          refine lv_iinc (v := x31) (lv' := [(8, .int x31), (0, .ref h_p0), (3, .ref (ad_p0 9)), (4, .ref (ad_p0 9)), (5, .int v5), (6, .int v6), (7, .int v7)]) hx hb dX5_greatestWithin_76 hl (k := 6) rfl (by rw [ex31]; rfl) (by decide) rfl (fun ls hl => ?_)
          refine lv_goto (tgt := 35) hx hb dX5_greatestWithin_79 (by decide) ?_
          exact ih _ _ hw _ _ _ hP hD hS (lv_sub hl [1, 2, 3, 4, 5, 6, 0] rfl)
        · have hw := hw.2 c30
          refine lv_iload hx hb dX5_greatestWithin_65 (lv_at hl 3 rfl) ?_
          refine lv_aload_n hx hb dX5_greatestWithin_67 rfl (lv_at hl 1 rfl) ?_
          refine lv_iload hx hb dX5_greatestWithin_68 (lv_at hl 6 rfl) ?_
          refine va_iald hx hb hK hP 1 0 rfl rfl hw.1 dX5_greatestWithin_70 ?_
          have hw := hw.2
          refine lv_iconst (v := -1) hx hb dX5_greatestWithin_71 (by decide) ?_
          refine lv_ixor hx hb dX5_greatestWithin_72 ?_
          refine lv_iand hx hb dX5_greatestWithin_73 ?_
          refine lv_topi (fun x32 ex32 => ?_)
          have hw := hw x32 ex32
          refine lv_istore (lv' := [(5, .int x32), (0, .ref h_p0), (3, .ref (ad_p0 9)), (4, .ref (ad_p0 9)), (6, .int v6), (7, .int v7), (8, .int v8)]) hx hb dX5_greatestWithin_74 hl (by decide) rfl (fun ls hl => ?_)
          obtain ⟨x33, ex33⟩ : ∃ y : Int32, y = v8 + (1 : Int32) := ⟨_, rfl⟩
          have hw := hw x33 ex33
          refine lv_iinc (v := x33) (lv' := [(8, .int x33), (5, .int x32), (0, .ref h_p0), (3, .ref (ad_p0 9)), (4, .ref (ad_p0 9)), (6, .int v6), (7, .int v7)]) hx hb dX5_greatestWithin_76 hl (k := 6) rfl (by rw [ex33]; rfl) (by decide) rfl (fun ls hl => ?_)
          refine lv_goto (tgt := 35) hx hb dX5_greatestWithin_79 (by decide) ?_
          exact ih _ _ hw _ _ _ hP hD hS (lv_sub hl [2, 3, 4, 1, 5, 6, 0] rfl)
set_option maxHeartbeats 4000000 in
set_option maxRecDepth 100000 in
theorem c_X5_greatestWithin_L19_1 {p : Program} {l : Launch} {e : Env} {s : State} {m : MethodId} {args : Array Value} {below : List Frame} {meth : Method} {c : Code} {dC : Nat → ClassId} {dI : Nat → Nat → Nat} {A : Nat → Prop} {cI cJ cZ : ClassId} {h_p0 : Nat} {ad_p0 : Nat → Nat} {p0_places : Int32} {p0_steps : Int32} {p0_coloured : Int32} {p0_putsInto : Nat → Int32} {p0_takesFrom : Nat → Int32}  {post : Int32 → Prop} {K : (Int32) → (Int32) → Prop} (E0 : xEnv p s m args meth c cX5_greatestWithin (some .int) 9 RX5 wsX5_greatestWithin (dC, dI) cI cJ cZ A) (hk : ∀ (v5 : Int32) (v6 : Int32) (H : Heap) (locs : List Loc) (ls : Array Slot), K v5 v6 → va_P (dC, dI) vwCl (wld_X5_greatestWithin cI cJ cZ h_p0 ad_p0 p0_places p0_steps p0_coloured p0_putsInto p0_takesFrom) H → va_D A (wld_X5_greatestWithin cI cJ cZ h_p0 ad_p0 p0_places p0_steps p0_coloured p0_putsInto p0_takesFrom) → va_S A s.heap H locs → lv_has ls 9 [(5, .int v5)] → W p l e ({ frames := 1, cells := 0, slots := 0, locals := 21 }) s m args below meth c H locs 0 0 (MQ below (q_X5_greatestWithin dC dI cI cJ cZ h_p0 ad_p0 p0_places p0_steps p0_coloured p0_putsInto p0_takesFrom post A) args s 0 0 A) (F0 m 98 ls [])) : ∀ (n : Nat) (v5 : Int32) (v6 : Int32), w_X5_greatestWithin_L19_1 p0_places p0_steps p0_putsInto p0_takesFrom post K n v5 v6 → ∀ (H : Heap) (locs : List Loc) (ls : Array Slot), va_P (dC, dI) vwCl (wld_X5_greatestWithin cI cJ cZ h_p0 ad_p0 p0_places p0_steps p0_coloured p0_putsInto p0_takesFrom) H → va_D A (wld_X5_greatestWithin cI cJ cZ h_p0 ad_p0 p0_places p0_steps p0_coloured p0_putsInto p0_takesFrom) → va_S A s.heap H locs → lv_has ls 9 [(0, .ref h_p0), (3, .ref (ad_p0 9)), (4, .ref (ad_p0 9)), (5, .int v5), (6, .int v6)] → W p l e ({ frames := 1, cells := 0, slots := 0, locals := 21 }) s m args below meth c H locs 0 0 (MQ below (q_X5_greatestWithin dC dI cI cJ cZ h_p0 ad_p0 p0_places p0_steps p0_coloured p0_putsInto p0_takesFrom post A) args s 0 0 A) (F0 m 19 ls []) := by
  obtain ⟨hx, hb, hr, hml, hown, hts, hlocks, hK, hA, n1, n2⟩ := id E0
  have iX5 : ∀ w ∈ u_ws RX5 TX5 14, w ∈ wsX5_greatestWithin := fun w h => List.mem_cons_of_mem _ (List.mem_append_right _ h)
  intro n
  induction n with
  | zero => intro v5 v6 hw; exact hw.elim
  | succ n ih =>
    intro v5 v6 hw H locs ls hP hD hS hl
    have hw : w_X5_greatestWithin_L19_1b p0_places p0_steps p0_putsInto p0_takesFrom post K (w_X5_greatestWithin_L19_1 p0_places p0_steps p0_putsInto p0_takesFrom post K n) v5 v6 := hw
    unfold w_X5_greatestWithin_L19_1b at hw
    refine lv_iload hx hb dX5_greatestWithin_19 (lv_at hl 4 rfl) ?_
    refine lv_aload_n hx hb dX5_greatestWithin_21 rfl (lv_at hl 0 rfl) ?_
    refine va_get (D := (dC, dI)) (ci := 5) (v := .int p0_places) (C := RX5) (T := TX5) (N := 14) hx hb hts iX5 hown hK hP 0 rfl rfl 11 (by decide) (hts (.fieldLink RX5 45 "NetHouse$Net" "places" "I") (by decide +kernel)) (fun _ h9 => h9) rfl dX5_greatestWithin_22 ?_
    refine lv_icmp_gt (tgt := 98) hx hb dX5_greatestWithin_25 (by decide) (fun c22 => ?_) (fun c23 => ?_)
    · have hw := hw.1 c22
      exact hk _ _ _ _ _ hw hP hD hS (lv_sub hl [3] rfl)
    · have hw := hw.2 c23
      refine lv_iload hx hb dX5_greatestWithin_28 (lv_at hl 3 rfl) ?_
      refine lv_istore (lv' := [(7, .int v5), (0, .ref h_p0), (3, .ref (ad_p0 9)), (4, .ref (ad_p0 9)), (5, .int v5), (6, .int v6)]) hx hb dX5_greatestWithin_30 hl (by decide) rfl (fun ls hl => ?_)
      refine lv_iconst (v := 0) hx hb dX5_greatestWithin_32 (by decide) ?_
      refine lv_istore (lv' := [(8, .int (0 : Int32)), (7, .int v5), (0, .ref h_p0), (3, .ref (ad_p0 9)), (4, .ref (ad_p0 9)), (5, .int v5), (6, .int v6)]) hx hb dX5_greatestWithin_33 hl (by decide) rfl (fun ls hl => ?_)
      obtain ⟨n34, hw⟩ := hw
      refine c_X5_greatestWithin_L35_1 (l := l)  E0 ?_ n34 _ _ hw _ _ _ hP hD hS (lv_sub hl [2, 3, 4, 5, 6, 1, 0] rfl)
      · intro v35 v36 H locs ls hw hP hD hS hl
        have hP : va_P (dC, dI) vwCl (wld_X5_greatestWithin cI cJ cZ h_p0 ad_p0 p0_places p0_steps p0_coloured p0_putsInto p0_takesFrom) H := hP
        have hD : va_D A (wld_X5_greatestWithin cI cJ cZ h_p0 ad_p0 p0_places p0_steps p0_coloured p0_putsInto p0_takesFrom) := hD
        refine lv_iload hx hb dX5_greatestWithin_82 (lv_at hl 3 rfl) ?_
        refine lv_iload hx hb dX5_greatestWithin_84 (lv_at hl 5 rfl) ?_
        refine lv_icmp_ne (tgt := 92) hx hb dX5_greatestWithin_86 (by decide) (fun c37 => ?_) (fun c38 => ?_)
        · have hw := hw.1 c37
          obtain ⟨x39, ex39⟩ : ∃ y : Int32, y = v6 + (1 : Int32) := ⟨_, rfl⟩
          have hw := hw x39 ex39
          refine lv_iinc (v := x39) (lv' := [(6, .int x39), (0, .ref h_p0), (3, .ref (ad_p0 9)), (4, .ref (ad_p0 9)), (5, .int v35), (7, .int v5)]) hx hb dX5_greatestWithin_92 hl (k := 4) rfl (by rw [ex39]; rfl) (by decide) rfl (fun ls hl => ?_)
          refine lv_goto (tgt := 19) hx hb dX5_greatestWithin_95 (by decide) ?_
          exact ih _ _ hw _ _ _ hP hD hS (lv_sub hl [1, 2, 3, 4, 0] rfl)
        · have hw := hw.2 c38
          refine lv_iload hx hb dX5_greatestWithin_89 (lv_at hl 3 rfl) ?_
          exact x_iret (w1 := fun (u : Unit) => (wld_X5_greatestWithin cI cJ cZ h_p0 ad_p0 p0_places p0_steps p0_coloured p0_putsInto p0_takesFrom)) hx hb hr hlocks () hw hP hD hS dX5_greatestWithin_91
set_option maxHeartbeats 4000000 in
set_option maxRecDepth 100000 in
theorem c_X5_greatestWithin_L35_2 {p : Program} {l : Launch} {e : Env} {s : State} {m : MethodId} {args : Array Value} {below : List Frame} {meth : Method} {c : Code} {dC : Nat → ClassId} {dI : Nat → Nat → Nat} {A : Nat → Prop} {cI cJ cZ : ClassId} {h_p0 : Nat} {ad_p0 : Nat → Nat} {p0_places : Int32} {p0_steps : Int32} {p0_coloured : Int32} {p0_putsInto : Nat → Int32} {p0_takesFrom : Nat → Int32} {v6 : Int32} {v7 : Int32}  {post : Int32 → Prop} {K : (Int32) → (Int32) → Prop} (E0 : xEnv p s m args meth c cX5_greatestWithin (some .int) 9 RX5 wsX5_greatestWithin (dC, dI) cI cJ cZ A) (hk : ∀ (v5 : Int32) (v8 : Int32) (H : Heap) (locs : List Loc) (ls : Array Slot), K v5 v8 → va_P (dC, dI) vwCl (wld_X5_greatestWithin cI cJ cZ h_p0 ad_p0 p0_places p0_steps p0_coloured p0_putsInto p0_takesFrom) H → va_D A (wld_X5_greatestWithin cI cJ cZ h_p0 ad_p0 p0_places p0_steps p0_coloured p0_putsInto p0_takesFrom) → va_S A s.heap H locs → lv_has ls 9 [(0, .ref h_p0), (3, .ref (ad_p0 8)), (4, .ref (ad_p0 8)), (5, .int v5), (6, .int v6), (7, .int v7)] → W p l e ({ frames := 1, cells := 0, slots := 0, locals := 21 }) s m args below meth c H locs 0 0 (MQ below (q_X5_greatestWithin dC dI cI cJ cZ h_p0 ad_p0 p0_places p0_steps p0_coloured p0_putsInto p0_takesFrom post A) args s 0 0 A) (F0 m 82 ls [])) : ∀ (n : Nat) (v5 : Int32) (v8 : Int32), w_X5_greatestWithin_L35_2 v6 v7 p0_places p0_steps p0_putsInto p0_takesFrom post K n v5 v8 → ∀ (H : Heap) (locs : List Loc) (ls : Array Slot), va_P (dC, dI) vwCl (wld_X5_greatestWithin cI cJ cZ h_p0 ad_p0 p0_places p0_steps p0_coloured p0_putsInto p0_takesFrom) H → va_D A (wld_X5_greatestWithin cI cJ cZ h_p0 ad_p0 p0_places p0_steps p0_coloured p0_putsInto p0_takesFrom) → va_S A s.heap H locs → lv_has ls 9 [(0, .ref h_p0), (3, .ref (ad_p0 8)), (4, .ref (ad_p0 8)), (5, .int v5), (6, .int v6), (7, .int v7), (8, .int v8)] → W p l e ({ frames := 1, cells := 0, slots := 0, locals := 21 }) s m args below meth c H locs 0 0 (MQ below (q_X5_greatestWithin dC dI cI cJ cZ h_p0 ad_p0 p0_places p0_steps p0_coloured p0_putsInto p0_takesFrom post A) args s 0 0 A) (F0 m 35 ls []) := by
  obtain ⟨hx, hb, hr, hml, hown, hts, hlocks, hK, hA, n1, n2⟩ := id E0
  have iX5 : ∀ w ∈ u_ws RX5 TX5 14, w ∈ wsX5_greatestWithin := fun w h => List.mem_cons_of_mem _ (List.mem_append_right _ h)
  intro n
  induction n with
  | zero => intro v5 v8 hw; exact hw.elim
  | succ n ih =>
    intro v5 v8 hw H locs ls hP hD hS hl
    have hw : w_X5_greatestWithin_L35_2b v6 v7 p0_places p0_steps p0_putsInto p0_takesFrom post K (w_X5_greatestWithin_L35_2 v6 v7 p0_places p0_steps p0_putsInto p0_takesFrom post K n) v5 v8 := hw
    unfold w_X5_greatestWithin_L35_2b at hw
    refine lv_iload hx hb dX5_greatestWithin_35 (lv_at hl 6 rfl) ?_
    refine lv_aload_n hx hb dX5_greatestWithin_37 rfl (lv_at hl 0 rfl) ?_
    refine va_get (D := (dC, dI)) (ci := 5) (v := .int p0_steps) (C := RX5) (T := TX5) (N := 14) hx hb hts iX5 hown hK hP 0 rfl rfl 12 (by decide) (hts (.fieldLink RX5 49 "NetHouse$Net" "steps" "I") (by decide +kernel)) (fun _ h9 => h9) rfl dX5_greatestWithin_38 ?_
    refine lv_icmp_ge (tgt := 82) hx hb dX5_greatestWithin_41 (by decide) (fun c45 => ?_) (fun c46 => ?_)
    · have hw := hw.1 c45
      exact hk _ _ _ _ _ hw hP hD hS (lv_sub hl [0, 1, 2, 3, 4, 5] rfl)
    · have hw := hw.2 c46
      refine lv_aload_n hx hb dX5_greatestWithin_44 rfl (lv_at hl 1 rfl) ?_
      refine lv_iload hx hb dX5_greatestWithin_45 (lv_at hl 6 rfl) ?_
      refine va_iald hx hb hK hP 2 0 rfl rfl hw.1 dX5_greatestWithin_47 ?_
      have hw := hw.2
      refine lv_iload hx hb dX5_greatestWithin_48 (lv_at hl 3 rfl) ?_
      refine lv_iand hx hb dX5_greatestWithin_50 ?_
      refine lv_if_eq (tgt := 76) hx hb dX5_greatestWithin_51 (by decide) (fun c47 => ?_) (fun c48 => ?_)
      · have hw := hw.1 c47
        obtain ⟨x49, ex49⟩ : ∃ y : Int32, y = v8 + (1 : Int32) := ⟨_, rfl⟩
        have hw := hw x49 ex49
        refine lv_iinc (v := x49) (lv' := [(8, .int x49), (0, .ref h_p0), (3, .ref (ad_p0 8)), (4, .ref (ad_p0 8)), (5, .int v5), (6, .int v6), (7, .int v7)]) hx hb dX5_greatestWithin_76 hl (k := 6) rfl (by rw [ex49]; rfl) (by decide) rfl (fun ls hl => ?_)
        refine lv_goto (tgt := 35) hx hb dX5_greatestWithin_79 (by decide) ?_
        exact ih _ _ hw _ _ _ hP hD hS (lv_sub hl [1, 2, 3, 4, 5, 6, 0] rfl)
      · have hw := hw.2 c48
        refine lv_aload hx hb dX5_greatestWithin_54 (lv_at hl 2 rfl) ?_
        refine lv_iload hx hb dX5_greatestWithin_56 (lv_at hl 6 rfl) ?_
        refine va_iald hx hb hK hP 2 0 rfl rfl hw.1 dX5_greatestWithin_58 ?_
        have hw := hw.2
        refine lv_iload hx hb dX5_greatestWithin_59 (lv_at hl 3 rfl) ?_
        refine lv_iand hx hb dX5_greatestWithin_61 ?_
        refine lv_if_ne (tgt := 76) hx hb dX5_greatestWithin_62 (by decide) (fun c50 => ?_) (fun c51 => ?_)
        · have hw := hw.1 c50
          obtain ⟨x52, ex52⟩ : ∃ y : Int32, y = v8 + (1 : Int32) := ⟨_, rfl⟩
          have hw := hw x52 ex52
          refine lv_iinc (v := x52) (lv' := [(8, .int x52), (0, .ref h_p0), (3, .ref (ad_p0 8)), (4, .ref (ad_p0 8)), (5, .int v5), (6, .int v6), (7, .int v7)]) hx hb dX5_greatestWithin_76 hl (k := 6) rfl (by rw [ex52]; rfl) (by decide) rfl (fun ls hl => ?_)
          refine lv_goto (tgt := 35) hx hb dX5_greatestWithin_79 (by decide) ?_
          exact ih _ _ hw _ _ _ hP hD hS (lv_sub hl [1, 2, 3, 4, 5, 6, 0] rfl)
        · have hw := hw.2 c51
          refine lv_iload hx hb dX5_greatestWithin_65 (lv_at hl 3 rfl) ?_
          refine lv_aload_n hx hb dX5_greatestWithin_67 rfl (lv_at hl 1 rfl) ?_
          refine lv_iload hx hb dX5_greatestWithin_68 (lv_at hl 6 rfl) ?_
          refine va_iald hx hb hK hP 2 0 rfl rfl hw.1 dX5_greatestWithin_70 ?_
          have hw := hw.2
          refine lv_iconst (v := -1) hx hb dX5_greatestWithin_71 (by decide) ?_
          refine lv_ixor hx hb dX5_greatestWithin_72 ?_
          refine lv_iand hx hb dX5_greatestWithin_73 ?_
          refine lv_topi (fun x53 ex53 => ?_)
          have hw := hw x53 ex53
          refine lv_istore (lv' := [(5, .int x53), (0, .ref h_p0), (3, .ref (ad_p0 8)), (4, .ref (ad_p0 8)), (6, .int v6), (7, .int v7), (8, .int v8)]) hx hb dX5_greatestWithin_74 hl (by decide) rfl (fun ls hl => ?_)
          obtain ⟨x54, ex54⟩ : ∃ y : Int32, y = v8 + (1 : Int32) := ⟨_, rfl⟩
          have hw := hw x54 ex54
          refine lv_iinc (v := x54) (lv' := [(8, .int x54), (5, .int x53), (0, .ref h_p0), (3, .ref (ad_p0 8)), (4, .ref (ad_p0 8)), (6, .int v6), (7, .int v7)]) hx hb dX5_greatestWithin_76 hl (k := 6) rfl (by rw [ex54]; rfl) (by decide) rfl (fun ls hl => ?_)
          refine lv_goto (tgt := 35) hx hb dX5_greatestWithin_79 (by decide) ?_
          exact ih _ _ hw _ _ _ hP hD hS (lv_sub hl [2, 3, 4, 1, 5, 6, 0] rfl)
set_option maxHeartbeats 4000000 in
set_option maxRecDepth 100000 in
theorem c_X5_greatestWithin_L19_2 {p : Program} {l : Launch} {e : Env} {s : State} {m : MethodId} {args : Array Value} {below : List Frame} {meth : Method} {c : Code} {dC : Nat → ClassId} {dI : Nat → Nat → Nat} {A : Nat → Prop} {cI cJ cZ : ClassId} {h_p0 : Nat} {ad_p0 : Nat → Nat} {p0_places : Int32} {p0_steps : Int32} {p0_coloured : Int32} {p0_putsInto : Nat → Int32} {p0_takesFrom : Nat → Int32}  {post : Int32 → Prop} {K : (Int32) → (Int32) → Prop} (E0 : xEnv p s m args meth c cX5_greatestWithin (some .int) 9 RX5 wsX5_greatestWithin (dC, dI) cI cJ cZ A) (hk : ∀ (v5 : Int32) (v6 : Int32) (H : Heap) (locs : List Loc) (ls : Array Slot), K v5 v6 → va_P (dC, dI) vwCl (wld_X5_greatestWithin cI cJ cZ h_p0 ad_p0 p0_places p0_steps p0_coloured p0_putsInto p0_takesFrom) H → va_D A (wld_X5_greatestWithin cI cJ cZ h_p0 ad_p0 p0_places p0_steps p0_coloured p0_putsInto p0_takesFrom) → va_S A s.heap H locs → lv_has ls 9 [(5, .int v5)] → W p l e ({ frames := 1, cells := 0, slots := 0, locals := 21 }) s m args below meth c H locs 0 0 (MQ below (q_X5_greatestWithin dC dI cI cJ cZ h_p0 ad_p0 p0_places p0_steps p0_coloured p0_putsInto p0_takesFrom post A) args s 0 0 A) (F0 m 98 ls [])) : ∀ (n : Nat) (v5 : Int32) (v6 : Int32), w_X5_greatestWithin_L19_2 p0_places p0_steps p0_putsInto p0_takesFrom post K n v5 v6 → ∀ (H : Heap) (locs : List Loc) (ls : Array Slot), va_P (dC, dI) vwCl (wld_X5_greatestWithin cI cJ cZ h_p0 ad_p0 p0_places p0_steps p0_coloured p0_putsInto p0_takesFrom) H → va_D A (wld_X5_greatestWithin cI cJ cZ h_p0 ad_p0 p0_places p0_steps p0_coloured p0_putsInto p0_takesFrom) → va_S A s.heap H locs → lv_has ls 9 [(0, .ref h_p0), (3, .ref (ad_p0 8)), (4, .ref (ad_p0 8)), (5, .int v5), (6, .int v6)] → W p l e ({ frames := 1, cells := 0, slots := 0, locals := 21 }) s m args below meth c H locs 0 0 (MQ below (q_X5_greatestWithin dC dI cI cJ cZ h_p0 ad_p0 p0_places p0_steps p0_coloured p0_putsInto p0_takesFrom post A) args s 0 0 A) (F0 m 19 ls []) := by
  obtain ⟨hx, hb, hr, hml, hown, hts, hlocks, hK, hA, n1, n2⟩ := id E0
  have iX5 : ∀ w ∈ u_ws RX5 TX5 14, w ∈ wsX5_greatestWithin := fun w h => List.mem_cons_of_mem _ (List.mem_append_right _ h)
  intro n
  induction n with
  | zero => intro v5 v6 hw; exact hw.elim
  | succ n ih =>
    intro v5 v6 hw H locs ls hP hD hS hl
    have hw : w_X5_greatestWithin_L19_2b p0_places p0_steps p0_putsInto p0_takesFrom post K (w_X5_greatestWithin_L19_2 p0_places p0_steps p0_putsInto p0_takesFrom post K n) v5 v6 := hw
    unfold w_X5_greatestWithin_L19_2b at hw
    refine lv_iload hx hb dX5_greatestWithin_19 (lv_at hl 4 rfl) ?_
    refine lv_aload_n hx hb dX5_greatestWithin_21 rfl (lv_at hl 0 rfl) ?_
    refine va_get (D := (dC, dI)) (ci := 5) (v := .int p0_places) (C := RX5) (T := TX5) (N := 14) hx hb hts iX5 hown hK hP 0 rfl rfl 11 (by decide) (hts (.fieldLink RX5 45 "NetHouse$Net" "places" "I") (by decide +kernel)) (fun _ h9 => h9) rfl dX5_greatestWithin_22 ?_
    refine lv_icmp_gt (tgt := 98) hx hb dX5_greatestWithin_25 (by decide) (fun c43 => ?_) (fun c44 => ?_)
    · have hw := hw.1 c43
      exact hk _ _ _ _ _ hw hP hD hS (lv_sub hl [3] rfl)
    · have hw := hw.2 c44
      refine lv_iload hx hb dX5_greatestWithin_28 (lv_at hl 3 rfl) ?_
      refine lv_istore (lv' := [(7, .int v5), (0, .ref h_p0), (3, .ref (ad_p0 8)), (4, .ref (ad_p0 8)), (5, .int v5), (6, .int v6)]) hx hb dX5_greatestWithin_30 hl (by decide) rfl (fun ls hl => ?_)
      refine lv_iconst (v := 0) hx hb dX5_greatestWithin_32 (by decide) ?_
      refine lv_istore (lv' := [(8, .int (0 : Int32)), (7, .int v5), (0, .ref h_p0), (3, .ref (ad_p0 8)), (4, .ref (ad_p0 8)), (5, .int v5), (6, .int v6)]) hx hb dX5_greatestWithin_33 hl (by decide) rfl (fun ls hl => ?_)
      obtain ⟨n55, hw⟩ := hw
      refine c_X5_greatestWithin_L35_2 (l := l)  E0 ?_ n55 _ _ hw _ _ _ hP hD hS (lv_sub hl [2, 3, 4, 5, 6, 1, 0] rfl)
      · intro v56 v57 H locs ls hw hP hD hS hl
        have hP : va_P (dC, dI) vwCl (wld_X5_greatestWithin cI cJ cZ h_p0 ad_p0 p0_places p0_steps p0_coloured p0_putsInto p0_takesFrom) H := hP
        have hD : va_D A (wld_X5_greatestWithin cI cJ cZ h_p0 ad_p0 p0_places p0_steps p0_coloured p0_putsInto p0_takesFrom) := hD
        refine lv_iload hx hb dX5_greatestWithin_82 (lv_at hl 3 rfl) ?_
        refine lv_iload hx hb dX5_greatestWithin_84 (lv_at hl 5 rfl) ?_
        refine lv_icmp_ne (tgt := 92) hx hb dX5_greatestWithin_86 (by decide) (fun c58 => ?_) (fun c59 => ?_)
        · have hw := hw.1 c58
          obtain ⟨x60, ex60⟩ : ∃ y : Int32, y = v6 + (1 : Int32) := ⟨_, rfl⟩
          have hw := hw x60 ex60
          refine lv_iinc (v := x60) (lv' := [(6, .int x60), (0, .ref h_p0), (3, .ref (ad_p0 8)), (4, .ref (ad_p0 8)), (5, .int v56), (7, .int v5)]) hx hb dX5_greatestWithin_92 hl (k := 4) rfl (by rw [ex60]; rfl) (by decide) rfl (fun ls hl => ?_)
          refine lv_goto (tgt := 19) hx hb dX5_greatestWithin_95 (by decide) ?_
          exact ih _ _ hw _ _ _ hP hD hS (lv_sub hl [1, 2, 3, 4, 0] rfl)
        · have hw := hw.2 c59
          refine lv_iload hx hb dX5_greatestWithin_89 (lv_at hl 3 rfl) ?_
          exact x_iret (w1 := fun (u : Unit) => (wld_X5_greatestWithin cI cJ cZ h_p0 ad_p0 p0_places p0_steps p0_coloured p0_putsInto p0_takesFrom)) hx hb hr hlocks () hw hP hD hS dX5_greatestWithin_91
set_option maxHeartbeats 4000000 in
set_option maxRecDepth 100000 in
theorem c_X5_greatestWithin_L35_3 {p : Program} {l : Launch} {e : Env} {s : State} {m : MethodId} {args : Array Value} {below : List Frame} {meth : Method} {c : Code} {dC : Nat → ClassId} {dI : Nat → Nat → Nat} {A : Nat → Prop} {cI cJ cZ : ClassId} {h_p0 : Nat} {ad_p0 : Nat → Nat} {p0_places : Int32} {p0_steps : Int32} {p0_coloured : Int32} {p0_putsInto : Nat → Int32} {p0_takesFrom : Nat → Int32} {v6 : Int32} {v7 : Int32}  {post : Int32 → Prop} {K : (Int32) → (Int32) → Prop} (E0 : xEnv p s m args meth c cX5_greatestWithin (some .int) 9 RX5 wsX5_greatestWithin (dC, dI) cI cJ cZ A) (hk : ∀ (v5 : Int32) (v8 : Int32) (H : Heap) (locs : List Loc) (ls : Array Slot), K v5 v8 → va_P (dC, dI) vwCl (wld_X5_greatestWithin cI cJ cZ h_p0 ad_p0 p0_places p0_steps p0_coloured p0_putsInto p0_takesFrom) H → va_D A (wld_X5_greatestWithin cI cJ cZ h_p0 ad_p0 p0_places p0_steps p0_coloured p0_putsInto p0_takesFrom) → va_S A s.heap H locs → lv_has ls 9 [(0, .ref h_p0), (3, .ref (ad_p0 8)), (4, .ref (ad_p0 9)), (5, .int v5), (6, .int v6), (7, .int v7)] → W p l e ({ frames := 1, cells := 0, slots := 0, locals := 21 }) s m args below meth c H locs 0 0 (MQ below (q_X5_greatestWithin dC dI cI cJ cZ h_p0 ad_p0 p0_places p0_steps p0_coloured p0_putsInto p0_takesFrom post A) args s 0 0 A) (F0 m 82 ls [])) : ∀ (n : Nat) (v5 : Int32) (v8 : Int32), w_X5_greatestWithin_L35_3 v6 v7 p0_places p0_steps p0_putsInto p0_takesFrom post K n v5 v8 → ∀ (H : Heap) (locs : List Loc) (ls : Array Slot), va_P (dC, dI) vwCl (wld_X5_greatestWithin cI cJ cZ h_p0 ad_p0 p0_places p0_steps p0_coloured p0_putsInto p0_takesFrom) H → va_D A (wld_X5_greatestWithin cI cJ cZ h_p0 ad_p0 p0_places p0_steps p0_coloured p0_putsInto p0_takesFrom) → va_S A s.heap H locs → lv_has ls 9 [(0, .ref h_p0), (3, .ref (ad_p0 8)), (4, .ref (ad_p0 9)), (5, .int v5), (6, .int v6), (7, .int v7), (8, .int v8)] → W p l e ({ frames := 1, cells := 0, slots := 0, locals := 21 }) s m args below meth c H locs 0 0 (MQ below (q_X5_greatestWithin dC dI cI cJ cZ h_p0 ad_p0 p0_places p0_steps p0_coloured p0_putsInto p0_takesFrom post A) args s 0 0 A) (F0 m 35 ls []) := by
  obtain ⟨hx, hb, hr, hml, hown, hts, hlocks, hK, hA, n1, n2⟩ := id E0
  have iX5 : ∀ w ∈ u_ws RX5 TX5 14, w ∈ wsX5_greatestWithin := fun w h => List.mem_cons_of_mem _ (List.mem_append_right _ h)
  intro n
  induction n with
  | zero => intro v5 v8 hw; exact hw.elim
  | succ n ih =>
    intro v5 v8 hw H locs ls hP hD hS hl
    have hw : w_X5_greatestWithin_L35_3b v6 v7 p0_places p0_steps p0_putsInto p0_takesFrom post K (w_X5_greatestWithin_L35_3 v6 v7 p0_places p0_steps p0_putsInto p0_takesFrom post K n) v5 v8 := hw
    unfold w_X5_greatestWithin_L35_3b at hw
    refine lv_iload hx hb dX5_greatestWithin_35 (lv_at hl 6 rfl) ?_
    refine lv_aload_n hx hb dX5_greatestWithin_37 rfl (lv_at hl 0 rfl) ?_
    refine va_get (D := (dC, dI)) (ci := 5) (v := .int p0_steps) (C := RX5) (T := TX5) (N := 14) hx hb hts iX5 hown hK hP 0 rfl rfl 12 (by decide) (hts (.fieldLink RX5 49 "NetHouse$Net" "steps" "I") (by decide +kernel)) (fun _ h9 => h9) rfl dX5_greatestWithin_38 ?_
    refine lv_icmp_ge (tgt := 82) hx hb dX5_greatestWithin_41 (by decide) (fun c66 => ?_) (fun c67 => ?_)
    · have hw := hw.1 c66
      exact hk _ _ _ _ _ hw hP hD hS (lv_sub hl [0, 1, 2, 3, 4, 5] rfl)
    · have hw := hw.2 c67
      refine lv_aload_n hx hb dX5_greatestWithin_44 rfl (lv_at hl 1 rfl) ?_
      refine lv_iload hx hb dX5_greatestWithin_45 (lv_at hl 6 rfl) ?_
      refine va_iald hx hb hK hP 2 0 rfl rfl hw.1 dX5_greatestWithin_47 ?_
      have hw := hw.2
      refine lv_iload hx hb dX5_greatestWithin_48 (lv_at hl 3 rfl) ?_
      refine lv_iand hx hb dX5_greatestWithin_50 ?_
      refine lv_if_eq (tgt := 76) hx hb dX5_greatestWithin_51 (by decide) (fun c68 => ?_) (fun c69 => ?_)
      · have hw := hw.1 c68
        obtain ⟨x70, ex70⟩ : ∃ y : Int32, y = v8 + (1 : Int32) := ⟨_, rfl⟩
        have hw := hw x70 ex70
        refine lv_iinc (v := x70) (lv' := [(8, .int x70), (0, .ref h_p0), (3, .ref (ad_p0 8)), (4, .ref (ad_p0 9)), (5, .int v5), (6, .int v6), (7, .int v7)]) hx hb dX5_greatestWithin_76 hl (k := 6) rfl (by rw [ex70]; rfl) (by decide) rfl (fun ls hl => ?_)
        refine lv_goto (tgt := 35) hx hb dX5_greatestWithin_79 (by decide) ?_
        exact ih _ _ hw _ _ _ hP hD hS (lv_sub hl [1, 2, 3, 4, 5, 6, 0] rfl)
      · have hw := hw.2 c69
        refine lv_aload hx hb dX5_greatestWithin_54 (lv_at hl 2 rfl) ?_
        refine lv_iload hx hb dX5_greatestWithin_56 (lv_at hl 6 rfl) ?_
        refine va_iald hx hb hK hP 1 0 rfl rfl hw.1 dX5_greatestWithin_58 ?_
        have hw := hw.2
        refine lv_iload hx hb dX5_greatestWithin_59 (lv_at hl 3 rfl) ?_
        refine lv_iand hx hb dX5_greatestWithin_61 ?_
        refine lv_if_ne (tgt := 76) hx hb dX5_greatestWithin_62 (by decide) (fun c71 => ?_) (fun c72 => ?_)
        · have hw := hw.1 c71
          obtain ⟨x73, ex73⟩ : ∃ y : Int32, y = v8 + (1 : Int32) := ⟨_, rfl⟩
          have hw := hw x73 ex73
          refine lv_iinc (v := x73) (lv' := [(8, .int x73), (0, .ref h_p0), (3, .ref (ad_p0 8)), (4, .ref (ad_p0 9)), (5, .int v5), (6, .int v6), (7, .int v7)]) hx hb dX5_greatestWithin_76 hl (k := 6) rfl (by rw [ex73]; rfl) (by decide) rfl (fun ls hl => ?_)
          refine lv_goto (tgt := 35) hx hb dX5_greatestWithin_79 (by decide) ?_
          exact ih _ _ hw _ _ _ hP hD hS (lv_sub hl [1, 2, 3, 4, 5, 6, 0] rfl)
        · have hw := hw.2 c72
          refine lv_iload hx hb dX5_greatestWithin_65 (lv_at hl 3 rfl) ?_
          refine lv_aload_n hx hb dX5_greatestWithin_67 rfl (lv_at hl 1 rfl) ?_
          refine lv_iload hx hb dX5_greatestWithin_68 (lv_at hl 6 rfl) ?_
          refine va_iald hx hb hK hP 2 0 rfl rfl hw.1 dX5_greatestWithin_70 ?_
          have hw := hw.2
          refine lv_iconst (v := -1) hx hb dX5_greatestWithin_71 (by decide) ?_
          refine lv_ixor hx hb dX5_greatestWithin_72 ?_
          refine lv_iand hx hb dX5_greatestWithin_73 ?_
          refine lv_topi (fun x74 ex74 => ?_)
          have hw := hw x74 ex74
          refine lv_istore (lv' := [(5, .int x74), (0, .ref h_p0), (3, .ref (ad_p0 8)), (4, .ref (ad_p0 9)), (6, .int v6), (7, .int v7), (8, .int v8)]) hx hb dX5_greatestWithin_74 hl (by decide) rfl (fun ls hl => ?_)
          obtain ⟨x75, ex75⟩ : ∃ y : Int32, y = v8 + (1 : Int32) := ⟨_, rfl⟩
          have hw := hw x75 ex75
          refine lv_iinc (v := x75) (lv' := [(8, .int x75), (5, .int x74), (0, .ref h_p0), (3, .ref (ad_p0 8)), (4, .ref (ad_p0 9)), (6, .int v6), (7, .int v7)]) hx hb dX5_greatestWithin_76 hl (k := 6) rfl (by rw [ex75]; rfl) (by decide) rfl (fun ls hl => ?_)
          refine lv_goto (tgt := 35) hx hb dX5_greatestWithin_79 (by decide) ?_
          exact ih _ _ hw _ _ _ hP hD hS (lv_sub hl [2, 3, 4, 1, 5, 6, 0] rfl)
set_option maxHeartbeats 4000000 in
set_option maxRecDepth 100000 in
theorem c_X5_greatestWithin_L19_3 {p : Program} {l : Launch} {e : Env} {s : State} {m : MethodId} {args : Array Value} {below : List Frame} {meth : Method} {c : Code} {dC : Nat → ClassId} {dI : Nat → Nat → Nat} {A : Nat → Prop} {cI cJ cZ : ClassId} {h_p0 : Nat} {ad_p0 : Nat → Nat} {p0_places : Int32} {p0_steps : Int32} {p0_coloured : Int32} {p0_putsInto : Nat → Int32} {p0_takesFrom : Nat → Int32}  {post : Int32 → Prop} {K : (Int32) → (Int32) → Prop} (E0 : xEnv p s m args meth c cX5_greatestWithin (some .int) 9 RX5 wsX5_greatestWithin (dC, dI) cI cJ cZ A) (hk : ∀ (v5 : Int32) (v6 : Int32) (H : Heap) (locs : List Loc) (ls : Array Slot), K v5 v6 → va_P (dC, dI) vwCl (wld_X5_greatestWithin cI cJ cZ h_p0 ad_p0 p0_places p0_steps p0_coloured p0_putsInto p0_takesFrom) H → va_D A (wld_X5_greatestWithin cI cJ cZ h_p0 ad_p0 p0_places p0_steps p0_coloured p0_putsInto p0_takesFrom) → va_S A s.heap H locs → lv_has ls 9 [(5, .int v5)] → W p l e ({ frames := 1, cells := 0, slots := 0, locals := 21 }) s m args below meth c H locs 0 0 (MQ below (q_X5_greatestWithin dC dI cI cJ cZ h_p0 ad_p0 p0_places p0_steps p0_coloured p0_putsInto p0_takesFrom post A) args s 0 0 A) (F0 m 98 ls [])) : ∀ (n : Nat) (v5 : Int32) (v6 : Int32), w_X5_greatestWithin_L19_3 p0_places p0_steps p0_putsInto p0_takesFrom post K n v5 v6 → ∀ (H : Heap) (locs : List Loc) (ls : Array Slot), va_P (dC, dI) vwCl (wld_X5_greatestWithin cI cJ cZ h_p0 ad_p0 p0_places p0_steps p0_coloured p0_putsInto p0_takesFrom) H → va_D A (wld_X5_greatestWithin cI cJ cZ h_p0 ad_p0 p0_places p0_steps p0_coloured p0_putsInto p0_takesFrom) → va_S A s.heap H locs → lv_has ls 9 [(0, .ref h_p0), (3, .ref (ad_p0 8)), (4, .ref (ad_p0 9)), (5, .int v5), (6, .int v6)] → W p l e ({ frames := 1, cells := 0, slots := 0, locals := 21 }) s m args below meth c H locs 0 0 (MQ below (q_X5_greatestWithin dC dI cI cJ cZ h_p0 ad_p0 p0_places p0_steps p0_coloured p0_putsInto p0_takesFrom post A) args s 0 0 A) (F0 m 19 ls []) := by
  obtain ⟨hx, hb, hr, hml, hown, hts, hlocks, hK, hA, n1, n2⟩ := id E0
  have iX5 : ∀ w ∈ u_ws RX5 TX5 14, w ∈ wsX5_greatestWithin := fun w h => List.mem_cons_of_mem _ (List.mem_append_right _ h)
  intro n
  induction n with
  | zero => intro v5 v6 hw; exact hw.elim
  | succ n ih =>
    intro v5 v6 hw H locs ls hP hD hS hl
    have hw : w_X5_greatestWithin_L19_3b p0_places p0_steps p0_putsInto p0_takesFrom post K (w_X5_greatestWithin_L19_3 p0_places p0_steps p0_putsInto p0_takesFrom post K n) v5 v6 := hw
    unfold w_X5_greatestWithin_L19_3b at hw
    refine lv_iload hx hb dX5_greatestWithin_19 (lv_at hl 4 rfl) ?_
    refine lv_aload_n hx hb dX5_greatestWithin_21 rfl (lv_at hl 0 rfl) ?_
    refine va_get (D := (dC, dI)) (ci := 5) (v := .int p0_places) (C := RX5) (T := TX5) (N := 14) hx hb hts iX5 hown hK hP 0 rfl rfl 11 (by decide) (hts (.fieldLink RX5 45 "NetHouse$Net" "places" "I") (by decide +kernel)) (fun _ h9 => h9) rfl dX5_greatestWithin_22 ?_
    refine lv_icmp_gt (tgt := 98) hx hb dX5_greatestWithin_25 (by decide) (fun c64 => ?_) (fun c65 => ?_)
    · have hw := hw.1 c64
      exact hk _ _ _ _ _ hw hP hD hS (lv_sub hl [3] rfl)
    · have hw := hw.2 c65
      refine lv_iload hx hb dX5_greatestWithin_28 (lv_at hl 3 rfl) ?_
      refine lv_istore (lv' := [(7, .int v5), (0, .ref h_p0), (3, .ref (ad_p0 8)), (4, .ref (ad_p0 9)), (5, .int v5), (6, .int v6)]) hx hb dX5_greatestWithin_30 hl (by decide) rfl (fun ls hl => ?_)
      refine lv_iconst (v := 0) hx hb dX5_greatestWithin_32 (by decide) ?_
      refine lv_istore (lv' := [(8, .int (0 : Int32)), (7, .int v5), (0, .ref h_p0), (3, .ref (ad_p0 8)), (4, .ref (ad_p0 9)), (5, .int v5), (6, .int v6)]) hx hb dX5_greatestWithin_33 hl (by decide) rfl (fun ls hl => ?_)
      obtain ⟨n76, hw⟩ := hw
      refine c_X5_greatestWithin_L35_3 (l := l)  E0 ?_ n76 _ _ hw _ _ _ hP hD hS (lv_sub hl [2, 3, 4, 5, 6, 1, 0] rfl)
      · intro v77 v78 H locs ls hw hP hD hS hl
        have hP : va_P (dC, dI) vwCl (wld_X5_greatestWithin cI cJ cZ h_p0 ad_p0 p0_places p0_steps p0_coloured p0_putsInto p0_takesFrom) H := hP
        have hD : va_D A (wld_X5_greatestWithin cI cJ cZ h_p0 ad_p0 p0_places p0_steps p0_coloured p0_putsInto p0_takesFrom) := hD
        refine lv_iload hx hb dX5_greatestWithin_82 (lv_at hl 3 rfl) ?_
        refine lv_iload hx hb dX5_greatestWithin_84 (lv_at hl 5 rfl) ?_
        refine lv_icmp_ne (tgt := 92) hx hb dX5_greatestWithin_86 (by decide) (fun c79 => ?_) (fun c80 => ?_)
        · have hw := hw.1 c79
          obtain ⟨x81, ex81⟩ : ∃ y : Int32, y = v6 + (1 : Int32) := ⟨_, rfl⟩
          have hw := hw x81 ex81
          refine lv_iinc (v := x81) (lv' := [(6, .int x81), (0, .ref h_p0), (3, .ref (ad_p0 8)), (4, .ref (ad_p0 9)), (5, .int v77), (7, .int v5)]) hx hb dX5_greatestWithin_92 hl (k := 4) rfl (by rw [ex81]; rfl) (by decide) rfl (fun ls hl => ?_)
          refine lv_goto (tgt := 19) hx hb dX5_greatestWithin_95 (by decide) ?_
          exact ih _ _ hw _ _ _ hP hD hS (lv_sub hl [1, 2, 3, 4, 0] rfl)
        · have hw := hw.2 c80
          refine lv_iload hx hb dX5_greatestWithin_89 (lv_at hl 3 rfl) ?_
          exact x_iret (w1 := fun (u : Unit) => (wld_X5_greatestWithin cI cJ cZ h_p0 ad_p0 p0_places p0_steps p0_coloured p0_putsInto p0_takesFrom)) hx hb hr hlocks () hw hP hD hS dX5_greatestWithin_91
set_option maxHeartbeats 4000000 in
set_option maxRecDepth 100000 in
theorem c_X5_greatestWithin {l : Launch} {dC : Nat → ClassId} {dI : Nat → Nat → Nat} {sz : Nat} {cI cJ cZ : ClassId} {h_p0 : Nat} {ad_p0 : Nat → Nat} {p0_places : Int32} {p0_steps : Int32} {p0_coloured : Int32} {p0_putsInto : Nat → Int32} {p0_takesFrom : Nat → Int32} {a1 : Int32} {a2 : Int32} {post : Int32 → Prop} (hw : w_X5_greatestWithin p0_places p0_steps p0_putsInto p0_takesFrom a1 a2 post) : Met l yX5_greatestWithin wsX5_greatestWithin ({ frames := 1, cells := 0, slots := 0, locals := 21 }) (va_Pc [.ref h_p0, .int a1, .int a2] (xPre (dC, dI) cI cJ cZ (wld_X5_greatestWithin cI cJ cZ h_p0 ad_p0 p0_places p0_steps p0_coloured p0_putsInto p0_takesFrom) sz)) (q_X5_greatestWithin dC dI cI cJ cZ h_p0 ad_p0 p0_places p0_steps p0_coloured p0_putsInto p0_takesFrom post (va_A (wld_X5_greatestWithin cI cJ cZ h_p0 ad_p0 p0_places p0_steps p0_coloured p0_putsInto p0_takesFrom) sz)) 0 0 (va_A (wld_X5_greatestWithin cI cJ cZ h_p0 ad_p0 p0_places p0_steps p0_coloured p0_putsInto p0_takesFrom) sz) := by
  refine x_met (cc := cX5_greatestWithin) (maxL := 9) (ret := (some .int)) (own := RX5) (Qc := fun A => (q_X5_greatestWithin dC dI cI cJ cZ h_p0 ad_p0 p0_places p0_steps p0_coloured p0_putsInto p0_takesFrom post A)) (by decide) rfl rfl (Nat.le_of_ble_eq_true rfl) ?_
  intro p e s m args below meth c A ls E0 hP hD hS hl
  obtain ⟨hx, hb, hr, hml, hown, hts, hlocks, hK, hA, n1, n2⟩ := id E0
  have iX5 : ∀ w ∈ u_ws RX5 TX5 14, w ∈ wsX5_greatestWithin := fun w h => List.mem_cons_of_mem _ (List.mem_append_right _ h)
  have hS0 := hS
  have hl : lv_has ls 9 [(0, .ref h_p0), (1, .int a1), (2, .int a2)] := hl
  unfold w_X5_greatestWithin at hw
  obtain ⟨H, hH⟩ : ∃ H, H = s.heap := ⟨_, rfl⟩
  have hS : va_S A s.heap H [] := by rw [hH]; exact hS
  have hP : va_P (dC, dI) vwCl (wld_X5_greatestWithin cI cJ cZ h_p0 ad_p0 p0_places p0_steps p0_coloured p0_putsInto p0_takesFrom) H := by rw [hH]; exact hP
  suffices hG : W p l e ({ frames := 1, cells := 0, slots := 0, locals := 21 }) s m args below meth c H [] 0 0 (MQ below (q_X5_greatestWithin dC dI cI cJ cZ h_p0 ad_p0 p0_places p0_steps p0_coloured p0_putsInto p0_takesFrom post A) args s 0 0 A) (F0 m 0 ls []) by rw [hH] at hG; exact hG
  clear hH
  refine lv_aload_n hx hb dX5_greatestWithin_0 rfl (lv_at hl 0 rfl) ?_
  refine lv_iload_n hx hb dX5_greatestWithin_1 rfl (lv_at hl 2 rfl) ?_
  obtain ⟨hPc, hDc⟩ := x_sub (wc := (wld_X5_entries cI cJ cZ h_p0 ad_p0 p0_places p0_steps p0_coloured)) hP hD [0] (n := 3) rfl rfl (by decide +kernel)
  refine x_callr (ws' := (wld_X5_greatestWithin cI cJ cZ h_p0 ad_p0 p0_places p0_steps p0_coloured p0_putsInto p0_takesFrom)) hP hD hS hA [0] [1, 2] [2, 0, 1] (n := 3) (k := 1) rfl rfl rfl (by decide +kernel) rfl (va_runV (As := [.int a2]) (rest := []) ⟨hx, hb, hml, hown, hts⟩ (c_X5_entries (l := l) (dC := dC) (dI := dI) (cI := cI) (cJ := cJ) (cZ := cZ) (sz := H.size) (h_p0 := h_p0) (ad_p0 := ad_p0) (p0_places := p0_places) (p0_steps := p0_steps) (p0_coloured := p0_coloured) hw) (cwV 1 hts gX5_greatestWithin_X5_entries rfl rfl rfl (by decide +kernel) ⟨Nat.le_of_ble_eq_true rfl, Nat.le_of_ble_eq_true rfl⟩) ⟨xPre_blind, va_recv hK hP (ci := 5) (q0 := 0) rfl rfl, xPre_at hK hPc hDc n1 n2⟩ rfl rfl hl.1 rfl (lv_room (Nat.le_of_ble_eq_true rfl)) dX5_greatestWithin_2 ⟨Nat.zero_le _, Nat.zero_le _⟩) (fun u H locs hw hP hD hS => ?_)
  try dsimp only at hw
  have hP : va_P (dC, dI) vwCl (wld_X5_greatestWithin cI cJ cZ h_p0 ad_p0 p0_places p0_steps p0_coloured p0_putsInto p0_takesFrom) H := hP
  have hD : va_D A (wld_X5_greatestWithin cI cJ cZ h_p0 ad_p0 p0_places p0_steps p0_coloured p0_putsInto p0_takesFrom) := hD
  by_cases hu : u = 0
  · have hw := hw.1 hu
    rw [if_pos hu]
    refine lv_astore_n (lv' := [(3, .ref (ad_p0 9)), (0, .ref h_p0), (1, .int a1), (2, .int a2)]) hx hb dX5_greatestWithin_5 rfl hl (by decide) rfl (fun ls hl => ?_)
    refine lv_aload_n hx hb dX5_greatestWithin_6 rfl (lv_at hl 1 rfl) ?_
    refine lv_iload_n hx hb dX5_greatestWithin_7 rfl (lv_at hl 3 rfl) ?_
    obtain ⟨hPc, hDc⟩ := x_sub (wc := (wld_X5_exits cI cJ cZ h_p0 ad_p0 p0_places p0_steps p0_coloured)) hP hD [0] (n := 3) rfl rfl (by decide +kernel)
    refine x_callr (ws' := (wld_X5_greatestWithin cI cJ cZ h_p0 ad_p0 p0_places p0_steps p0_coloured p0_putsInto p0_takesFrom)) hP hD hS hA [0] [1, 2] [2, 0, 1] (n := 3) (k := 1) rfl rfl rfl (by decide +kernel) rfl (va_runV (As := [.int a2]) (rest := []) ⟨hx, hb, hml, hown, hts⟩ (c_X5_exits (l := l) (dC := dC) (dI := dI) (cI := cI) (cJ := cJ) (cZ := cZ) (sz := H.size) (h_p0 := h_p0) (ad_p0 := ad_p0) (p0_places := p0_places) (p0_steps := p0_steps) (p0_coloured := p0_coloured) hw) (cwV 1 hts gX5_greatestWithin_X5_exits rfl rfl rfl (by decide +kernel) ⟨Nat.le_of_ble_eq_true rfl, Nat.le_of_ble_eq_true rfl⟩) ⟨xPre_blind, va_recv hK hP (ci := 5) (q0 := 0) rfl rfl, xPre_at hK hPc hDc n1 n2⟩ rfl rfl hl.1 rfl (lv_room (Nat.le_of_ble_eq_true rfl)) dX5_greatestWithin_8 ⟨Nat.zero_le _, Nat.zero_le _⟩) (fun u H locs hw hP hD hS => ?_)
    try dsimp only at hw
    have hP : va_P (dC, dI) vwCl (wld_X5_greatestWithin cI cJ cZ h_p0 ad_p0 p0_places p0_steps p0_coloured p0_putsInto p0_takesFrom) H := hP
    have hD : va_D A (wld_X5_greatestWithin cI cJ cZ h_p0 ad_p0 p0_places p0_steps p0_coloured p0_putsInto p0_takesFrom) := hD
    by_cases hu : u = 0
    · have hw := hw.1 hu
      rw [if_pos hu]
      refine lv_astore (lv' := [(4, .ref (ad_p0 8)), (3, .ref (ad_p0 9)), (0, .ref h_p0), (1, .int a1), (2, .int a2)]) hx hb dX5_greatestWithin_11 hl (by decide) rfl (fun ls hl => ?_)
      refine lv_iload_n hx hb dX5_greatestWithin_13 rfl (lv_at hl 3 rfl) ?_
      refine lv_istore (lv' := [(5, .int a1), (4, .ref (ad_p0 8)), (3, .ref (ad_p0 9)), (0, .ref h_p0), (1, .int a1), (2, .int a2)]) hx hb dX5_greatestWithin_14 hl (by decide) rfl (fun ls hl => ?_)
      refine lv_iconst (v := 0) hx hb dX5_greatestWithin_16 (by decide) ?_
      refine lv_istore (lv' := [(6, .int (0 : Int32)), (5, .int a1), (4, .ref (ad_p0 8)), (3, .ref (ad_p0 9)), (0, .ref h_p0), (1, .int a1), (2, .int a2)]) hx hb dX5_greatestWithin_17 hl (by decide) rfl (fun ls hl => ?_)
      obtain ⟨n19, hw⟩ := hw
      refine c_X5_greatestWithin_L19 (l := l)  E0 ?_ n19 _ _ hw _ _ _ hP hD hS (lv_sub hl [4, 3, 2, 1, 0] rfl)
      · intro v20 v21 H locs ls hw hP hD hS hl
        have hP : va_P (dC, dI) vwCl (wld_X5_greatestWithin cI cJ cZ h_p0 ad_p0 p0_places p0_steps p0_coloured p0_putsInto p0_takesFrom) H := hP
        have hD : va_D A (wld_X5_greatestWithin cI cJ cZ h_p0 ad_p0 p0_places p0_steps p0_coloured p0_putsInto p0_takesFrom) := hD
        refine lv_iload hx hb dX5_greatestWithin_98 (lv_at hl 0 rfl) ?_
        exact x_iret (w1 := fun (u : Unit) => (wld_X5_greatestWithin cI cJ cZ h_p0 ad_p0 p0_places p0_steps p0_coloured p0_putsInto p0_takesFrom)) hx hb hr hlocks () hw hP hD hS dX5_greatestWithin_100
    · have hw := hw.2 hu
      rw [if_neg hu]
      refine lv_astore (lv' := [(4, .ref (ad_p0 9)), (3, .ref (ad_p0 9)), (0, .ref h_p0), (1, .int a1), (2, .int a2)]) hx hb dX5_greatestWithin_11 hl (by decide) rfl (fun ls hl => ?_)
      refine lv_iload_n hx hb dX5_greatestWithin_13 rfl (lv_at hl 3 rfl) ?_
      refine lv_istore (lv' := [(5, .int a1), (4, .ref (ad_p0 9)), (3, .ref (ad_p0 9)), (0, .ref h_p0), (1, .int a1), (2, .int a2)]) hx hb dX5_greatestWithin_14 hl (by decide) rfl (fun ls hl => ?_)
      refine lv_iconst (v := 0) hx hb dX5_greatestWithin_16 (by decide) ?_
      refine lv_istore (lv' := [(6, .int (0 : Int32)), (5, .int a1), (4, .ref (ad_p0 9)), (3, .ref (ad_p0 9)), (0, .ref h_p0), (1, .int a1), (2, .int a2)]) hx hb dX5_greatestWithin_17 hl (by decide) rfl (fun ls hl => ?_)
      obtain ⟨n40, hw⟩ := hw
      refine c_X5_greatestWithin_L19_1 (l := l)  E0 ?_ n40 _ _ hw _ _ _ hP hD hS (lv_sub hl [4, 3, 2, 1, 0] rfl)
      · intro v41 v42 H locs ls hw hP hD hS hl
        have hP : va_P (dC, dI) vwCl (wld_X5_greatestWithin cI cJ cZ h_p0 ad_p0 p0_places p0_steps p0_coloured p0_putsInto p0_takesFrom) H := hP
        have hD : va_D A (wld_X5_greatestWithin cI cJ cZ h_p0 ad_p0 p0_places p0_steps p0_coloured p0_putsInto p0_takesFrom) := hD
        refine lv_iload hx hb dX5_greatestWithin_98 (lv_at hl 0 rfl) ?_
        exact x_iret (w1 := fun (u : Unit) => (wld_X5_greatestWithin cI cJ cZ h_p0 ad_p0 p0_places p0_steps p0_coloured p0_putsInto p0_takesFrom)) hx hb hr hlocks () hw hP hD hS dX5_greatestWithin_100
  · have hw := hw.2 hu
    rw [if_neg hu]
    refine lv_astore_n (lv' := [(3, .ref (ad_p0 8)), (0, .ref h_p0), (1, .int a1), (2, .int a2)]) hx hb dX5_greatestWithin_5 rfl hl (by decide) rfl (fun ls hl => ?_)
    refine lv_aload_n hx hb dX5_greatestWithin_6 rfl (lv_at hl 1 rfl) ?_
    refine lv_iload_n hx hb dX5_greatestWithin_7 rfl (lv_at hl 3 rfl) ?_
    obtain ⟨hPc, hDc⟩ := x_sub (wc := (wld_X5_exits cI cJ cZ h_p0 ad_p0 p0_places p0_steps p0_coloured)) hP hD [0] (n := 3) rfl rfl (by decide +kernel)
    refine x_callr (ws' := (wld_X5_greatestWithin cI cJ cZ h_p0 ad_p0 p0_places p0_steps p0_coloured p0_putsInto p0_takesFrom)) hP hD hS hA [0] [1, 2] [2, 0, 1] (n := 3) (k := 1) rfl rfl rfl (by decide +kernel) rfl (va_runV (As := [.int a2]) (rest := []) ⟨hx, hb, hml, hown, hts⟩ (c_X5_exits (l := l) (dC := dC) (dI := dI) (cI := cI) (cJ := cJ) (cZ := cZ) (sz := H.size) (h_p0 := h_p0) (ad_p0 := ad_p0) (p0_places := p0_places) (p0_steps := p0_steps) (p0_coloured := p0_coloured) hw) (cwV 1 hts gX5_greatestWithin_X5_exits rfl rfl rfl (by decide +kernel) ⟨Nat.le_of_ble_eq_true rfl, Nat.le_of_ble_eq_true rfl⟩) ⟨xPre_blind, va_recv hK hP (ci := 5) (q0 := 0) rfl rfl, xPre_at hK hPc hDc n1 n2⟩ rfl rfl hl.1 rfl (lv_room (Nat.le_of_ble_eq_true rfl)) dX5_greatestWithin_8 ⟨Nat.zero_le _, Nat.zero_le _⟩) (fun u H locs hw hP hD hS => ?_)
    try dsimp only at hw
    have hP : va_P (dC, dI) vwCl (wld_X5_greatestWithin cI cJ cZ h_p0 ad_p0 p0_places p0_steps p0_coloured p0_putsInto p0_takesFrom) H := hP
    have hD : va_D A (wld_X5_greatestWithin cI cJ cZ h_p0 ad_p0 p0_places p0_steps p0_coloured p0_putsInto p0_takesFrom) := hD
    by_cases hu : u = 0
    · have hw := hw.1 hu
      rw [if_pos hu]
      refine lv_astore (lv' := [(4, .ref (ad_p0 8)), (3, .ref (ad_p0 8)), (0, .ref h_p0), (1, .int a1), (2, .int a2)]) hx hb dX5_greatestWithin_11 hl (by decide) rfl (fun ls hl => ?_)
      refine lv_iload_n hx hb dX5_greatestWithin_13 rfl (lv_at hl 3 rfl) ?_
      refine lv_istore (lv' := [(5, .int a1), (4, .ref (ad_p0 8)), (3, .ref (ad_p0 8)), (0, .ref h_p0), (1, .int a1), (2, .int a2)]) hx hb dX5_greatestWithin_14 hl (by decide) rfl (fun ls hl => ?_)
      refine lv_iconst (v := 0) hx hb dX5_greatestWithin_16 (by decide) ?_
      refine lv_istore (lv' := [(6, .int (0 : Int32)), (5, .int a1), (4, .ref (ad_p0 8)), (3, .ref (ad_p0 8)), (0, .ref h_p0), (1, .int a1), (2, .int a2)]) hx hb dX5_greatestWithin_17 hl (by decide) rfl (fun ls hl => ?_)
      obtain ⟨n61, hw⟩ := hw
      refine c_X5_greatestWithin_L19_2 (l := l)  E0 ?_ n61 _ _ hw _ _ _ hP hD hS (lv_sub hl [4, 3, 2, 1, 0] rfl)
      · intro v62 v63 H locs ls hw hP hD hS hl
        have hP : va_P (dC, dI) vwCl (wld_X5_greatestWithin cI cJ cZ h_p0 ad_p0 p0_places p0_steps p0_coloured p0_putsInto p0_takesFrom) H := hP
        have hD : va_D A (wld_X5_greatestWithin cI cJ cZ h_p0 ad_p0 p0_places p0_steps p0_coloured p0_putsInto p0_takesFrom) := hD
        refine lv_iload hx hb dX5_greatestWithin_98 (lv_at hl 0 rfl) ?_
        exact x_iret (w1 := fun (u : Unit) => (wld_X5_greatestWithin cI cJ cZ h_p0 ad_p0 p0_places p0_steps p0_coloured p0_putsInto p0_takesFrom)) hx hb hr hlocks () hw hP hD hS dX5_greatestWithin_100
    · have hw := hw.2 hu
      rw [if_neg hu]
      refine lv_astore (lv' := [(4, .ref (ad_p0 9)), (3, .ref (ad_p0 8)), (0, .ref h_p0), (1, .int a1), (2, .int a2)]) hx hb dX5_greatestWithin_11 hl (by decide) rfl (fun ls hl => ?_)
      refine lv_iload_n hx hb dX5_greatestWithin_13 rfl (lv_at hl 3 rfl) ?_
      refine lv_istore (lv' := [(5, .int a1), (4, .ref (ad_p0 9)), (3, .ref (ad_p0 8)), (0, .ref h_p0), (1, .int a1), (2, .int a2)]) hx hb dX5_greatestWithin_14 hl (by decide) rfl (fun ls hl => ?_)
      refine lv_iconst (v := 0) hx hb dX5_greatestWithin_16 (by decide) ?_
      refine lv_istore (lv' := [(6, .int (0 : Int32)), (5, .int a1), (4, .ref (ad_p0 9)), (3, .ref (ad_p0 8)), (0, .ref h_p0), (1, .int a1), (2, .int a2)]) hx hb dX5_greatestWithin_17 hl (by decide) rfl (fun ls hl => ?_)
      obtain ⟨n82, hw⟩ := hw
      refine c_X5_greatestWithin_L19_3 (l := l)  E0 ?_ n82 _ _ hw _ _ _ hP hD hS (lv_sub hl [4, 3, 2, 1, 0] rfl)
      · intro v83 v84 H locs ls hw hP hD hS hl
        have hP : va_P (dC, dI) vwCl (wld_X5_greatestWithin cI cJ cZ h_p0 ad_p0 p0_places p0_steps p0_coloured p0_putsInto p0_takesFrom) H := hP
        have hD : va_D A (wld_X5_greatestWithin cI cJ cZ h_p0 ad_p0 p0_places p0_steps p0_coloured p0_putsInto p0_takesFrom) := hD
        refine lv_iload hx hb dX5_greatestWithin_98 (lv_at hl 0 rfl) ?_
        exact x_iret (w1 := fun (u : Unit) => (wld_X5_greatestWithin cI cJ cZ h_p0 ad_p0 p0_places p0_steps p0_coloured p0_putsInto p0_takesFrom)) hx hb hr hlocks () hw hP hD hS dX5_greatestWithin_100
abbrev wld_X5_isLeast (cI cJ cZ : ClassId) (h_p0 : Nat) (ad_p0 : Nat → Nat) (p0_places : Int32) (p0_steps : Int32) (p0_coloured : Int32) (p0_putsInto : Nat → Int32) (p0_takesFrom : Nat → Int32) : va_W := [(h_p0, .inr (5, [.ref (ad_p0 0), .ref (ad_p0 1), .ref (ad_p0 2), .ref (ad_p0 3), .ref (ad_p0 4), .ref (ad_p0 5), .ref (ad_p0 6), .ref (ad_p0 7), .ref (ad_p0 8), .ref (ad_p0 9), .ref (ad_p0 10), .int p0_places, .int p0_steps, .int p0_coloured])), ((ad_p0 9), .inl (cI, 16, .inl p0_putsInto)), ((ad_p0 8), .inl (cI, 16, .inl p0_takesFrom))]
abbrev q_X5_isLeast (dC : Nat → ClassId) (dI : Nat → Nat → Nat) (cI cJ cZ : ClassId) (h_p0 : Nat) (ad_p0 : Nat → Nat) (p0_places : Int32) (p0_steps : Int32) (p0_coloured : Int32) (p0_putsInto : Nat → Int32) (p0_takesFrom : Nat → Int32) (post : Int32 → Prop) (A : Nat → Prop) : Array Value → State → Outcome → State → Prop := va_Qi (fun r (u : Unit) => post r ) (fun (u : Unit) t => xPost (dC, dI) A (wld_X5_isLeast cI cJ cZ h_p0 ad_p0 p0_places p0_steps p0_coloured p0_putsInto p0_takesFrom) t) A
def w_X5_isLeast_L18b (v1 : Int32) (v2 : Int32) (p0_places : Int32) (p0_steps : Int32) (p0_putsInto : Nat → Int32) (p0_takesFrom : Nat → Int32) (post : Int32 → Prop) (K : (Int32) → Prop) (rec : (Int32) → Prop) (v3 : Int32) : Prop :=
    (p0_places ≤ v3 →
      K v3) ∧
    (¬ p0_places ≤ v3 →
      (¬ ((v1 >>> (v3 &&& 31)) &&& (1 : Int32)) = (1 : Int32) →
        ∀ x10 : Int32, x10 = v3 + (1 : Int32) →
        rec x10) ∧
      (((v1 >>> (v3 &&& 31)) &&& (1 : Int32)) = (1 : Int32) →
        w_X5_greatestWithin p0_places p0_steps p0_putsInto p0_takesFrom (v1 &&& (((1 : Int32) <<< (v3 &&& 31)) ^^^ (-1 : Int32))) v2 (fun r11 =>
        (r11 = 0 →
          ∀ x14 : Int32, x14 = v3 + (1 : Int32) →
          rec x14) ∧
        (¬ r11 = 0 →
          (post (0 : Int32))))))
def w_X5_isLeast_L18 (v1 : Int32) (v2 : Int32) (p0_places : Int32) (p0_steps : Int32) (p0_putsInto : Nat → Int32) (p0_takesFrom : Nat → Int32) (post : Int32 → Prop) (K : (Int32) → Prop) : Nat → (Int32) → Prop
  | 0, _ => False
  | n + 1, v3 => w_X5_isLeast_L18b v1 v2 p0_places p0_steps p0_putsInto p0_takesFrom post K (w_X5_isLeast_L18 v1 v2 p0_places p0_steps p0_putsInto p0_takesFrom post K n) v3
def w_X5_isLeast (p0_places : Int32) (p0_steps : Int32) (p0_putsInto : Nat → Int32) (p0_takesFrom : Nat → Int32) (a1 : Int32) (a2 : Int32) (post : Int32 → Prop) : Prop :=
  (a1 = 0 →
    (post (0 : Int32))) ∧
  (¬ a1 = 0 →
    w_X5_greatestWithin p0_places p0_steps p0_putsInto p0_takesFrom a1 a2 (fun r3 =>
    (r3 = a1 →
      ∃ n : Nat, w_X5_isLeast_L18 a1 a2 p0_places p0_steps p0_putsInto p0_takesFrom post (fun v16 =>
          (post (1 : Int32))) n (0 : Int32)) ∧
    (¬ r3 = a1 →
      (post (0 : Int32)))))
set_option maxHeartbeats 4000000 in
set_option maxRecDepth 100000 in
theorem c_X5_isLeast_L18 {p : Program} {l : Launch} {e : Env} {s : State} {m : MethodId} {args : Array Value} {below : List Frame} {meth : Method} {c : Code} {dC : Nat → ClassId} {dI : Nat → Nat → Nat} {A : Nat → Prop} {cI cJ cZ : ClassId} {h_p0 : Nat} {ad_p0 : Nat → Nat} {p0_places : Int32} {p0_steps : Int32} {p0_coloured : Int32} {p0_putsInto : Nat → Int32} {p0_takesFrom : Nat → Int32} {v1 : Int32} {v2 : Int32}  {post : Int32 → Prop} {K : (Int32) → Prop} (E0 : xEnv p s m args meth c cX5_isLeast (some .boolean) 4 RX5 wsX5_isLeast (dC, dI) cI cJ cZ A) (hk : ∀ (v3 : Int32) (H : Heap) (locs : List Loc) (ls : Array Slot), K v3 → va_P (dC, dI) vwCl (wld_X5_isLeast cI cJ cZ h_p0 ad_p0 p0_places p0_steps p0_coloured p0_putsInto p0_takesFrom) H → va_D A (wld_X5_isLeast cI cJ cZ h_p0 ad_p0 p0_places p0_steps p0_coloured p0_putsInto p0_takesFrom) → va_S A s.heap H locs → lv_has ls 4 [] → W p l e ({ frames := 2, cells := 0, slots := 0, locals := 49 }) s m args below meth c H locs 0 0 (MQ below (q_X5_isLeast dC dI cI cJ cZ h_p0 ad_p0 p0_places p0_steps p0_coloured p0_putsInto p0_takesFrom post A) args s 0 0 A) (F0 m 58 ls [])) : ∀ (n : Nat) (v3 : Int32), w_X5_isLeast_L18 v1 v2 p0_places p0_steps p0_putsInto p0_takesFrom post K n v3 → ∀ (H : Heap) (locs : List Loc) (ls : Array Slot), va_P (dC, dI) vwCl (wld_X5_isLeast cI cJ cZ h_p0 ad_p0 p0_places p0_steps p0_coloured p0_putsInto p0_takesFrom) H → va_D A (wld_X5_isLeast cI cJ cZ h_p0 ad_p0 p0_places p0_steps p0_coloured p0_putsInto p0_takesFrom) → va_S A s.heap H locs → lv_has ls 4 [(0, .ref h_p0), (1, .int v1), (2, .int v2), (3, .int v3)] → W p l e ({ frames := 2, cells := 0, slots := 0, locals := 49 }) s m args below meth c H locs 0 0 (MQ below (q_X5_isLeast dC dI cI cJ cZ h_p0 ad_p0 p0_places p0_steps p0_coloured p0_putsInto p0_takesFrom post A) args s 0 0 A) (F0 m 18 ls []) := by
  obtain ⟨hx, hb, hr, hml, hown, hts, hlocks, hK, hA, n1, n2⟩ := id E0
  have iX5 : ∀ w ∈ u_ws RX5 TX5 14, w ∈ wsX5_isLeast := fun w h => List.mem_cons_of_mem _ (List.mem_append_right _ h)
  intro n
  induction n with
  | zero => intro v3 hw; exact hw.elim
  | succ n ih =>
    intro v3 hw H locs ls hP hD hS hl
    have hw : w_X5_isLeast_L18b v1 v2 p0_places p0_steps p0_putsInto p0_takesFrom post K (w_X5_isLeast_L18 v1 v2 p0_places p0_steps p0_putsInto p0_takesFrom post K n) v3 := hw
    unfold w_X5_isLeast_L18b at hw
    refine lv_iload_n hx hb dX5_isLeast_18 rfl (lv_at hl 3 rfl) ?_
    refine lv_aload_n hx hb dX5_isLeast_19 rfl (lv_at hl 0 rfl) ?_
    refine va_get (D := (dC, dI)) (ci := 5) (v := .int p0_places) (C := RX5) (T := TX5) (N := 14) hx hb hts iX5 hown hK hP 0 rfl rfl 11 (by decide) (hts (.fieldLink RX5 45 "NetHouse$Net" "places" "I") (by decide +kernel)) (fun _ h9 => h9) rfl dX5_isLeast_20 ?_
    refine lv_icmp_ge (tgt := 58) hx hb dX5_isLeast_23 (by decide) (fun c6 => ?_) (fun c7 => ?_)
    · have hw := hw.1 c6
      exact hk _ _ _ _ hw hP hD hS (lv_sub hl [] rfl)
    · have hw := hw.2 c7
      refine lv_iload_n hx hb dX5_isLeast_26 rfl (lv_at hl 1 rfl) ?_
      refine lv_iload_n hx hb dX5_isLeast_27 rfl (lv_at hl 3 rfl) ?_
      refine lv_ishr hx hb dX5_isLeast_28 ?_
      refine lv_iconst (v := 1) hx hb dX5_isLeast_29 (by decide) ?_
      refine lv_iand hx hb dX5_isLeast_30 ?_
      refine lv_iconst (v := 1) hx hb dX5_isLeast_31 (by decide) ?_
      refine lv_icmp_ne (tgt := 52) hx hb dX5_isLeast_32 (by decide) (fun c8 => ?_) (fun c9 => ?_)
      · have hw := hw.1 c8
        obtain ⟨x10, ex10⟩ : ∃ y : Int32, y = v3 + (1 : Int32) := ⟨_, rfl⟩
        have hw := hw x10 ex10
        refine lv_iinc (v := x10) (lv' := [(3, .int x10), (0, .ref h_p0), (1, .int v1), (2, .int v2)]) hx hb dX5_isLeast_52 hl (k := 3) rfl (by rw [ex10]; rfl) (by decide) rfl (fun ls hl => ?_)
        refine lv_goto (tgt := 18) hx hb dX5_isLeast_55 (by decide) ?_
        exact ih _ hw _ _ _ hP hD hS (lv_sub hl [1, 2, 3, 0] rfl)
      · have hw := hw.2 c9
        refine lv_aload_n hx hb dX5_isLeast_35 rfl (lv_at hl 0 rfl) ?_
        refine lv_iload_n hx hb dX5_isLeast_36 rfl (lv_at hl 1 rfl) ?_
        refine lv_iconst (v := 1) hx hb dX5_isLeast_37 (by decide) ?_
        refine lv_iload_n hx hb dX5_isLeast_38 rfl (lv_at hl 3 rfl) ?_
        refine lv_ishl hx hb dX5_isLeast_39 ?_
        refine lv_iconst (v := -1) hx hb dX5_isLeast_40 (by decide) ?_
        refine lv_ixor hx hb dX5_isLeast_41 ?_
        refine lv_iand hx hb dX5_isLeast_42 ?_
        refine lv_iload_n hx hb dX5_isLeast_43 rfl (lv_at hl 2 rfl) ?_
        obtain ⟨hPc, hDc⟩ := x_sub (wc := (wld_X5_greatestWithin cI cJ cZ h_p0 ad_p0 p0_places p0_steps p0_coloured p0_putsInto p0_takesFrom)) hP hD [0, 1, 2] (n := 3) rfl rfl (by decide +kernel)
        refine x_calli (ws' := fun (u : Unit) => (wld_X5_isLeast cI cJ cZ h_p0 ad_p0 p0_places p0_steps p0_coloured p0_putsInto p0_takesFrom)) hP hD hS hA [0, 1, 2] [] [0, 1, 2] (n := 3) (k := 3) rfl (fun _ => rfl) rfl (by decide +kernel) (fun _ => rfl) (va_runV (As := [.int (v1 &&& (((1 : Int32) <<< (v3 &&& 31)) ^^^ (-1 : Int32))), .int v2]) (rest := []) ⟨hx, hb, hml, hown, hts⟩ (c_X5_greatestWithin (l := l) (dC := dC) (dI := dI) (cI := cI) (cJ := cJ) (cZ := cZ) (sz := H.size) (h_p0 := h_p0) (ad_p0 := ad_p0) (p0_places := p0_places) (p0_steps := p0_steps) (p0_coloured := p0_coloured) (p0_putsInto := p0_putsInto) (p0_takesFrom := p0_takesFrom) hw) (cwV 2 hts gX5_isLeast_X5_greatestWithin rfl rfl rfl (by decide +kernel) ⟨Nat.le_of_ble_eq_true rfl, Nat.le_of_ble_eq_true rfl⟩) ⟨xPre_blind, va_recv hK hP (ci := 5) (q0 := 0) rfl rfl, xPre_at hK hPc hDc n1 n2⟩ rfl rfl hl.1 rfl (lv_room (Nat.le_of_ble_eq_true rfl)) dX5_isLeast_44 ⟨Nat.zero_le _, Nat.zero_le _⟩) (fun r11 u H locs hw hP hD hS => ?_)
        try dsimp only at hw
        have hP : va_P (dC, dI) vwCl (wld_X5_isLeast cI cJ cZ h_p0 ad_p0 p0_places p0_steps p0_coloured p0_putsInto p0_takesFrom) H := hP
        have hD : va_D A (wld_X5_isLeast cI cJ cZ h_p0 ad_p0 p0_places p0_steps p0_coloured p0_putsInto p0_takesFrom) := hD
        refine lv_if_eq (tgt := 52) hx hb dX5_isLeast_47 (by decide) (fun c12 => ?_) (fun c13 => ?_)
        · have hw := hw.1 c12
          obtain ⟨x14, ex14⟩ : ∃ y : Int32, y = v3 + (1 : Int32) := ⟨_, rfl⟩
          have hw := hw x14 ex14
          refine lv_iinc (v := x14) (lv' := [(3, .int x14), (0, .ref h_p0), (1, .int v1), (2, .int v2)]) hx hb dX5_isLeast_52 hl (k := 3) rfl (by rw [ex14]; rfl) (by decide) rfl (fun ls hl => ?_)
          refine lv_goto (tgt := 18) hx hb dX5_isLeast_55 (by decide) ?_
          exact ih _ hw _ _ _ hP hD hS (lv_sub hl [1, 2, 3, 0] rfl)
        · have hw := hw.2 c13
          refine lv_iconst (v := 0) hx hb dX5_isLeast_50 (by decide) ?_
          exact x_zret (w1 := fun (u : Unit) => (wld_X5_isLeast cI cJ cZ h_p0 ad_p0 p0_places p0_steps p0_coloured p0_putsInto p0_takesFrom)) hx hb hr hlocks (by decide) () hw hP hD hS dX5_isLeast_51
set_option maxHeartbeats 4000000 in
set_option maxRecDepth 100000 in
theorem c_X5_isLeast {l : Launch} {dC : Nat → ClassId} {dI : Nat → Nat → Nat} {sz : Nat} {cI cJ cZ : ClassId} {h_p0 : Nat} {ad_p0 : Nat → Nat} {p0_places : Int32} {p0_steps : Int32} {p0_coloured : Int32} {p0_putsInto : Nat → Int32} {p0_takesFrom : Nat → Int32} {a1 : Int32} {a2 : Int32} {post : Int32 → Prop} (hw : w_X5_isLeast p0_places p0_steps p0_putsInto p0_takesFrom a1 a2 post) : Met l yX5_isLeast wsX5_isLeast ({ frames := 2, cells := 0, slots := 0, locals := 49 }) (va_Pc [.ref h_p0, .int a1, .int a2] (xPre (dC, dI) cI cJ cZ (wld_X5_isLeast cI cJ cZ h_p0 ad_p0 p0_places p0_steps p0_coloured p0_putsInto p0_takesFrom) sz)) (q_X5_isLeast dC dI cI cJ cZ h_p0 ad_p0 p0_places p0_steps p0_coloured p0_putsInto p0_takesFrom post (va_A (wld_X5_isLeast cI cJ cZ h_p0 ad_p0 p0_places p0_steps p0_coloured p0_putsInto p0_takesFrom) sz)) 0 0 (va_A (wld_X5_isLeast cI cJ cZ h_p0 ad_p0 p0_places p0_steps p0_coloured p0_putsInto p0_takesFrom) sz) := by
  refine x_met (cc := cX5_isLeast) (maxL := 4) (ret := (some .boolean)) (own := RX5) (Qc := fun A => (q_X5_isLeast dC dI cI cJ cZ h_p0 ad_p0 p0_places p0_steps p0_coloured p0_putsInto p0_takesFrom post A)) (by decide) rfl rfl (Nat.le_of_ble_eq_true rfl) ?_
  intro p e s m args below meth c A ls E0 hP hD hS hl
  obtain ⟨hx, hb, hr, hml, hown, hts, hlocks, hK, hA, n1, n2⟩ := id E0
  have iX5 : ∀ w ∈ u_ws RX5 TX5 14, w ∈ wsX5_isLeast := fun w h => List.mem_cons_of_mem _ (List.mem_append_right _ h)
  have hS0 := hS
  have hl : lv_has ls 4 [(0, .ref h_p0), (1, .int a1), (2, .int a2)] := hl
  unfold w_X5_isLeast at hw
  obtain ⟨H, hH⟩ : ∃ H, H = s.heap := ⟨_, rfl⟩
  have hS : va_S A s.heap H [] := by rw [hH]; exact hS
  have hP : va_P (dC, dI) vwCl (wld_X5_isLeast cI cJ cZ h_p0 ad_p0 p0_places p0_steps p0_coloured p0_putsInto p0_takesFrom) H := by rw [hH]; exact hP
  suffices hG : W p l e ({ frames := 2, cells := 0, slots := 0, locals := 49 }) s m args below meth c H [] 0 0 (MQ below (q_X5_isLeast dC dI cI cJ cZ h_p0 ad_p0 p0_places p0_steps p0_coloured p0_putsInto p0_takesFrom post A) args s 0 0 A) (F0 m 0 ls []) by rw [hH] at hG; exact hG
  clear hH
  refine lv_iload_n hx hb dX5_isLeast_0 rfl (lv_at hl 1 rfl) ?_
  refine lv_if_eq (tgt := 14) hx hb dX5_isLeast_1 (by decide) (fun c1 => ?_) (fun c2 => ?_)
  · have hw := hw.1 c1
    refine lv_iconst (v := 0) hx hb dX5_isLeast_14 (by decide) ?_
    exact x_zret (w1 := fun (u : Unit) => (wld_X5_isLeast cI cJ cZ h_p0 ad_p0 p0_places p0_steps p0_coloured p0_putsInto p0_takesFrom)) hx hb hr hlocks (by decide) () hw hP hD hS dX5_isLeast_15
  · have hw := hw.2 c2
    refine lv_aload_n hx hb dX5_isLeast_4 rfl (lv_at hl 0 rfl) ?_
    refine lv_iload_n hx hb dX5_isLeast_5 rfl (lv_at hl 1 rfl) ?_
    refine lv_iload_n hx hb dX5_isLeast_6 rfl (lv_at hl 2 rfl) ?_
    obtain ⟨hPc, hDc⟩ := x_sub (wc := (wld_X5_greatestWithin cI cJ cZ h_p0 ad_p0 p0_places p0_steps p0_coloured p0_putsInto p0_takesFrom)) hP hD [0, 1, 2] (n := 3) rfl rfl (by decide +kernel)
    refine x_calli (ws' := fun (u : Unit) => (wld_X5_isLeast cI cJ cZ h_p0 ad_p0 p0_places p0_steps p0_coloured p0_putsInto p0_takesFrom)) hP hD hS hA [0, 1, 2] [] [0, 1, 2] (n := 3) (k := 3) rfl (fun _ => rfl) rfl (by decide +kernel) (fun _ => rfl) (va_runV (As := [.int a1, .int a2]) (rest := []) ⟨hx, hb, hml, hown, hts⟩ (c_X5_greatestWithin (l := l) (dC := dC) (dI := dI) (cI := cI) (cJ := cJ) (cZ := cZ) (sz := H.size) (h_p0 := h_p0) (ad_p0 := ad_p0) (p0_places := p0_places) (p0_steps := p0_steps) (p0_coloured := p0_coloured) (p0_putsInto := p0_putsInto) (p0_takesFrom := p0_takesFrom) hw) (cwV 2 hts gX5_isLeast_X5_greatestWithin rfl rfl rfl (by decide +kernel) ⟨Nat.le_of_ble_eq_true rfl, Nat.le_of_ble_eq_true rfl⟩) ⟨xPre_blind, va_recv hK hP (ci := 5) (q0 := 0) rfl rfl, xPre_at hK hPc hDc n1 n2⟩ rfl rfl hl.1 rfl (lv_room (Nat.le_of_ble_eq_true rfl)) dX5_isLeast_7 ⟨Nat.zero_le _, Nat.zero_le _⟩) (fun r3 u H locs hw hP hD hS => ?_)
    try dsimp only at hw
    have hP : va_P (dC, dI) vwCl (wld_X5_isLeast cI cJ cZ h_p0 ad_p0 p0_places p0_steps p0_coloured p0_putsInto p0_takesFrom) H := hP
    have hD : va_D A (wld_X5_isLeast cI cJ cZ h_p0 ad_p0 p0_places p0_steps p0_coloured p0_putsInto p0_takesFrom) := hD
    refine lv_iload_n hx hb dX5_isLeast_10 rfl (lv_at hl 1 rfl) ?_
    refine lv_icmp_eq (tgt := 16) hx hb dX5_isLeast_11 (by decide) (fun c4 => ?_) (fun c5 => ?_)
    · have hw := hw.1 c4
      refine lv_iconst (v := 0) hx hb dX5_isLeast_16 (by decide) ?_
      refine lv_istore_n (lv' := [(3, .int (0 : Int32)), (0, .ref h_p0), (1, .int a1), (2, .int a2)]) hx hb dX5_isLeast_17 rfl hl (by decide) rfl (fun ls hl => ?_)
      obtain ⟨n15, hw⟩ := hw
      refine c_X5_isLeast_L18 (l := l)  E0 ?_ n15 _ hw _ _ _ hP hD hS (lv_sub hl [1, 2, 3, 0] rfl)
      · intro v16 H locs ls hw hP hD hS hl
        have hP : va_P (dC, dI) vwCl (wld_X5_isLeast cI cJ cZ h_p0 ad_p0 p0_places p0_steps p0_coloured p0_putsInto p0_takesFrom) H := hP
        have hD : va_D A (wld_X5_isLeast cI cJ cZ h_p0 ad_p0 p0_places p0_steps p0_coloured p0_putsInto p0_takesFrom) := hD
        refine lv_iconst (v := 1) hx hb dX5_isLeast_58 (by decide) ?_
        exact x_zret (w1 := fun (u : Unit) => (wld_X5_isLeast cI cJ cZ h_p0 ad_p0 p0_places p0_steps p0_coloured p0_putsInto p0_takesFrom)) hx hb hr hlocks (by decide) () hw hP hD hS dX5_isLeast_59
    · have hw := hw.2 c5
      refine lv_iconst (v := 0) hx hb dX5_isLeast_14 (by decide) ?_
      exact x_zret (w1 := fun (u : Unit) => (wld_X5_isLeast cI cJ cZ h_p0 ad_p0 p0_places p0_steps p0_coloured p0_putsInto p0_takesFrom)) hx hb hr hlocks (by decide) () hw hP hD hS dX5_isLeast_15
abbrev wld_X5_isFreeAt (cI cJ cZ : ClassId) (h_p0 : Nat) (ad_p0 : Nat → Nat) (p0_places : Int32) (p0_steps : Int32) (p0_coloured : Int32) (p0_takesFrom : Nat → Int32) : va_W := [(h_p0, .inr (5, [.ref (ad_p0 0), .ref (ad_p0 1), .ref (ad_p0 2), .ref (ad_p0 3), .ref (ad_p0 4), .ref (ad_p0 5), .ref (ad_p0 6), .ref (ad_p0 7), .ref (ad_p0 8), .ref (ad_p0 9), .ref (ad_p0 10), .int p0_places, .int p0_steps, .int p0_coloured])), ((ad_p0 8), .inl (cI, 16, .inl p0_takesFrom))]
abbrev q_X5_isFreeAt (dC : Nat → ClassId) (dI : Nat → Nat → Nat) (cI cJ cZ : ClassId) (h_p0 : Nat) (ad_p0 : Nat → Nat) (p0_places : Int32) (p0_steps : Int32) (p0_coloured : Int32) (p0_takesFrom : Nat → Int32) (post : Int32 → Prop) (A : Nat → Prop) : Array Value → State → Outcome → State → Prop := va_Qi (fun r (u : Unit) => post r ) (fun (u : Unit) t => xPost (dC, dI) A (wld_X5_isFreeAt cI cJ cZ h_p0 ad_p0 p0_places p0_steps p0_coloured p0_takesFrom) t) A
def w_X5_isFreeAt_L7b (v1 : Int32) (p0_steps : Int32) (p0_takesFrom : Nat → Int32) (post : Int32 → Prop) (K : (Int32) → (Int32) → (Int32) → Prop) (rec : (Int32) → (Int32) → (Int32) → Prop) (v2 : Int32) (v3 : Int32) (v4 : Int32) : Prop :=
    (p0_steps ≤ v4 →
      K v2 v3 v4) ∧
    (¬ p0_steps ≤ v4 →
      vp_in v4 16 ∧
      (((p0_takesFrom v4.toNatClampNeg) &&& ((1 : Int32) <<< (v1 &&& 31))) = 0 →
        ∀ x5 : Int32, x5 = v4 + (1 : Int32) →
        rec v2 v3 x5) ∧
      (¬ ((p0_takesFrom v4.toNatClampNeg) &&& ((1 : Int32) <<< (v1 &&& 31))) = 0 →
        ∀ x6 : Int32, x6 = v2 + (1 : Int32) →
        vp_in v4 16 ∧
        ∀ x7 : Int32, x7 = (v3 ||| ((p0_takesFrom v4.toNatClampNeg) &&& (((1 : Int32) <<< (v1 &&& 31)) ^^^ (-1 : Int32)))) →
        ∀ x8 : Int32, x8 = v4 + (1 : Int32) →
        rec x6 x7 x8))
def w_X5_isFreeAt_L7 (v1 : Int32) (p0_steps : Int32) (p0_takesFrom : Nat → Int32) (post : Int32 → Prop) (K : (Int32) → (Int32) → (Int32) → Prop) : Nat → (Int32) → (Int32) → (Int32) → Prop
  | 0, _, _, _ => False
  | n + 1, v2, v3, v4 => w_X5_isFreeAt_L7b v1 p0_steps p0_takesFrom post K (w_X5_isFreeAt_L7 v1 p0_steps p0_takesFrom post K n) v2 v3 v4
def w_X5_isFreeAt (p0_steps : Int32) (p0_takesFrom : Nat → Int32) (a1 : Int32) (post : Int32 → Prop) : Prop :=
  ∃ n : Nat, w_X5_isFreeAt_L7 a1 p0_steps p0_takesFrom post (fun v10 v11 v12 =>
      (v10 = (1 : Int32) →
        (post (1 : Int32))) ∧
      (¬ v10 = (1 : Int32) →
        (v10 ≤ (1 : Int32) →
          (post (0 : Int32))) ∧
        (¬ v10 ≤ (1 : Int32) →
          (¬ v11 = 0 →
            (post (0 : Int32))) ∧
          (v11 = 0 →
            (post (1 : Int32)))))) n (0 : Int32) (0 : Int32) (0 : Int32)
set_option maxHeartbeats 4000000 in
set_option maxRecDepth 100000 in
theorem c_X5_isFreeAt_L7 {p : Program} {l : Launch} {e : Env} {s : State} {m : MethodId} {args : Array Value} {below : List Frame} {meth : Method} {c : Code} {dC : Nat → ClassId} {dI : Nat → Nat → Nat} {A : Nat → Prop} {cI cJ cZ : ClassId} {h_p0 : Nat} {ad_p0 : Nat → Nat} {p0_places : Int32} {p0_steps : Int32} {p0_coloured : Int32} {p0_takesFrom : Nat → Int32} {v1 : Int32}  {post : Int32 → Prop} {K : (Int32) → (Int32) → (Int32) → Prop} (E0 : xEnv p s m args meth c cX5_isFreeAt (some .boolean) 5 RX5 wsX5_isFreeAt (dC, dI) cI cJ cZ A) (hk : ∀ (v2 : Int32) (v3 : Int32) (v4 : Int32) (H : Heap) (locs : List Loc) (ls : Array Slot), K v2 v3 v4 → va_P (dC, dI) vwCl (wld_X5_isFreeAt cI cJ cZ h_p0 ad_p0 p0_places p0_steps p0_coloured p0_takesFrom) H → va_D A (wld_X5_isFreeAt cI cJ cZ h_p0 ad_p0 p0_places p0_steps p0_coloured p0_takesFrom) → va_S A s.heap H locs → lv_has ls 5 [(2, .int v2), (3, .int v3)] → W p l e ({ frames := 0, cells := 0, slots := 0, locals := 0 }) s m args below meth c H locs 0 0 (MQ below (q_X5_isFreeAt dC dI cI cJ cZ h_p0 ad_p0 p0_places p0_steps p0_coloured p0_takesFrom post A) args s 0 0 A) (F0 m 55 ls [])) : ∀ (n : Nat) (v2 : Int32) (v3 : Int32) (v4 : Int32), w_X5_isFreeAt_L7 v1 p0_steps p0_takesFrom post K n v2 v3 v4 → ∀ (H : Heap) (locs : List Loc) (ls : Array Slot), va_P (dC, dI) vwCl (wld_X5_isFreeAt cI cJ cZ h_p0 ad_p0 p0_places p0_steps p0_coloured p0_takesFrom) H → va_D A (wld_X5_isFreeAt cI cJ cZ h_p0 ad_p0 p0_places p0_steps p0_coloured p0_takesFrom) → va_S A s.heap H locs → lv_has ls 5 [(0, .ref h_p0), (1, .int v1), (2, .int v2), (3, .int v3), (4, .int v4)] → W p l e ({ frames := 0, cells := 0, slots := 0, locals := 0 }) s m args below meth c H locs 0 0 (MQ below (q_X5_isFreeAt dC dI cI cJ cZ h_p0 ad_p0 p0_places p0_steps p0_coloured p0_takesFrom post A) args s 0 0 A) (F0 m 7 ls []) := by
  obtain ⟨hx, hb, hr, hml, hown, hts, hlocks, hK, hA, n1, n2⟩ := id E0
  have iX5 : ∀ w ∈ u_ws RX5 TX5 14, w ∈ wsX5_isFreeAt := fun w h => List.mem_cons_of_mem _ (List.mem_append_right _ h)
  intro n
  induction n with
  | zero => intro v2 v3 v4 hw; exact hw.elim
  | succ n ih =>
    intro v2 v3 v4 hw H locs ls hP hD hS hl
    have hw : w_X5_isFreeAt_L7b v1 p0_steps p0_takesFrom post K (w_X5_isFreeAt_L7 v1 p0_steps p0_takesFrom post K n) v2 v3 v4 := hw
    unfold w_X5_isFreeAt_L7b at hw
    refine lv_iload hx hb dX5_isFreeAt_7 (lv_at hl 4 rfl) ?_
    refine lv_aload_n hx hb dX5_isFreeAt_9 rfl (lv_at hl 0 rfl) ?_
    refine va_get (D := (dC, dI)) (ci := 5) (v := .int p0_steps) (C := RX5) (T := TX5) (N := 14) hx hb hts iX5 hown hK hP 0 rfl rfl 12 (by decide) (hts (.fieldLink RX5 49 "NetHouse$Net" "steps" "I") (by decide +kernel)) (fun _ h9 => h9) rfl dX5_isFreeAt_10 ?_
    refine lv_icmp_ge (tgt := 55) hx hb dX5_isFreeAt_13 (by decide) (fun c1 => ?_) (fun c2 => ?_)
    · have hw := hw.1 c1
      exact hk _ _ _ _ _ _ hw hP hD hS (lv_sub hl [2, 3] rfl)
    · have hw := hw.2 c2
      refine lv_aload_n hx hb dX5_isFreeAt_16 rfl (lv_at hl 0 rfl) ?_
      refine va_get (D := (dC, dI)) (ci := 5) (v := .ref (ad_p0 8)) (C := RX5) (T := TX5) (N := 14) hx hb hts iX5 hown hK hP 0 rfl rfl 8 (by decide) (hts (.fieldLink RX5 36 "NetHouse$Net" "takesFrom" "[I") (by decide +kernel)) (fun _ h9 => h9) rfl dX5_isFreeAt_17 ?_
      refine lv_iload hx hb dX5_isFreeAt_20 (lv_at hl 4 rfl) ?_
      refine va_iald hx hb hK hP 1 0 rfl rfl hw.1 dX5_isFreeAt_22 ?_
      have hw := hw.2
      refine lv_iconst (v := 1) hx hb dX5_isFreeAt_23 (by decide) ?_
      refine lv_iload_n hx hb dX5_isFreeAt_24 rfl (lv_at hl 1 rfl) ?_
      refine lv_ishl hx hb dX5_isFreeAt_25 ?_
      refine lv_iand hx hb dX5_isFreeAt_26 ?_
      refine lv_if_eq (tgt := 49) hx hb dX5_isFreeAt_27 (by decide) (fun c3 => ?_) (fun c4 => ?_)
      · have hw := hw.1 c3
        obtain ⟨x5, ex5⟩ : ∃ y : Int32, y = v4 + (1 : Int32) := ⟨_, rfl⟩
        have hw := hw x5 ex5
        refine lv_iinc (v := x5) (lv' := [(4, .int x5), (0, .ref h_p0), (1, .int v1), (2, .int v2), (3, .int v3)]) hx hb dX5_isFreeAt_49 hl (k := 4) rfl (by rw [ex5]; rfl) (by decide) rfl (fun ls hl => ?_)
        refine lv_goto (tgt := 7) hx hb dX5_isFreeAt_52 (by decide) ?_
        exact ih _ _ _ hw _ _ _ hP hD hS (lv_sub hl [1, 2, 3, 4, 0] rfl)
      · have hw := hw.2 c4
        obtain ⟨x6, ex6⟩ : ∃ y : Int32, y = v2 + (1 : Int32) := ⟨_, rfl⟩
        have hw := hw x6 ex6
        refine lv_iinc (v := x6) (lv' := [(2, .int x6), (0, .ref h_p0), (1, .int v1), (3, .int v3), (4, .int v4)]) hx hb dX5_isFreeAt_30 hl (k := 2) rfl (by rw [ex6]; rfl) (by decide) rfl (fun ls hl => ?_)
        refine lv_iload_n hx hb dX5_isFreeAt_33 rfl (lv_at hl 3 rfl) ?_
        refine lv_aload_n hx hb dX5_isFreeAt_34 rfl (lv_at hl 1 rfl) ?_
        refine va_get (D := (dC, dI)) (ci := 5) (v := .ref (ad_p0 8)) (C := RX5) (T := TX5) (N := 14) hx hb hts iX5 hown hK hP 0 rfl rfl 8 (by decide) (hts (.fieldLink RX5 36 "NetHouse$Net" "takesFrom" "[I") (by decide +kernel)) (fun _ h9 => h9) rfl dX5_isFreeAt_35 ?_
        refine lv_iload hx hb dX5_isFreeAt_38 (lv_at hl 4 rfl) ?_
        refine va_iald hx hb hK hP 1 0 rfl rfl hw.1 dX5_isFreeAt_40 ?_
        have hw := hw.2
        refine lv_iconst (v := 1) hx hb dX5_isFreeAt_41 (by decide) ?_
        refine lv_iload_n hx hb dX5_isFreeAt_42 rfl (lv_at hl 2 rfl) ?_
        refine lv_ishl hx hb dX5_isFreeAt_43 ?_
        refine lv_iconst (v := -1) hx hb dX5_isFreeAt_44 (by decide) ?_
        refine lv_ixor hx hb dX5_isFreeAt_45 ?_
        refine lv_iand hx hb dX5_isFreeAt_46 ?_
        refine lv_ior hx hb dX5_isFreeAt_47 ?_
        refine lv_topi (fun x7 ex7 => ?_)
        have hw := hw x7 ex7
        refine lv_istore_n (lv' := [(3, .int x7), (2, .int x6), (0, .ref h_p0), (1, .int v1), (4, .int v4)]) hx hb dX5_isFreeAt_48 rfl hl (by decide) rfl (fun ls hl => ?_)
        obtain ⟨x8, ex8⟩ : ∃ y : Int32, y = v4 + (1 : Int32) := ⟨_, rfl⟩
        have hw := hw x8 ex8
        refine lv_iinc (v := x8) (lv' := [(4, .int x8), (3, .int x7), (2, .int x6), (0, .ref h_p0), (1, .int v1)]) hx hb dX5_isFreeAt_49 hl (k := 4) rfl (by rw [ex8]; rfl) (by decide) rfl (fun ls hl => ?_)
        refine lv_goto (tgt := 7) hx hb dX5_isFreeAt_52 (by decide) ?_
        exact ih _ _ _ hw _ _ _ hP hD hS (lv_sub hl [3, 4, 2, 1, 0] rfl)
set_option maxHeartbeats 4000000 in
set_option maxRecDepth 100000 in
theorem c_X5_isFreeAt {l : Launch} {dC : Nat → ClassId} {dI : Nat → Nat → Nat} {sz : Nat} {cI cJ cZ : ClassId} {h_p0 : Nat} {ad_p0 : Nat → Nat} {p0_places : Int32} {p0_steps : Int32} {p0_coloured : Int32} {p0_takesFrom : Nat → Int32} {a1 : Int32} {post : Int32 → Prop} (hw : w_X5_isFreeAt p0_steps p0_takesFrom a1 post) : Met l yX5_isFreeAt wsX5_isFreeAt ({ frames := 0, cells := 0, slots := 0, locals := 0 }) (va_Pc [.ref h_p0, .int a1] (xPre (dC, dI) cI cJ cZ (wld_X5_isFreeAt cI cJ cZ h_p0 ad_p0 p0_places p0_steps p0_coloured p0_takesFrom) sz)) (q_X5_isFreeAt dC dI cI cJ cZ h_p0 ad_p0 p0_places p0_steps p0_coloured p0_takesFrom post (va_A (wld_X5_isFreeAt cI cJ cZ h_p0 ad_p0 p0_places p0_steps p0_coloured p0_takesFrom) sz)) 0 0 (va_A (wld_X5_isFreeAt cI cJ cZ h_p0 ad_p0 p0_places p0_steps p0_coloured p0_takesFrom) sz) := by
  refine x_met (cc := cX5_isFreeAt) (maxL := 5) (ret := (some .boolean)) (own := RX5) (Qc := fun A => (q_X5_isFreeAt dC dI cI cJ cZ h_p0 ad_p0 p0_places p0_steps p0_coloured p0_takesFrom post A)) (by decide) rfl rfl (Nat.le_of_ble_eq_true rfl) ?_
  intro p e s m args below meth c A ls E0 hP hD hS hl
  obtain ⟨hx, hb, hr, hml, hown, hts, hlocks, hK, hA, n1, n2⟩ := id E0
  have iX5 : ∀ w ∈ u_ws RX5 TX5 14, w ∈ wsX5_isFreeAt := fun w h => List.mem_cons_of_mem _ (List.mem_append_right _ h)
  have hS0 := hS
  have hl : lv_has ls 5 [(0, .ref h_p0), (1, .int a1)] := hl
  unfold w_X5_isFreeAt at hw
  obtain ⟨H, hH⟩ : ∃ H, H = s.heap := ⟨_, rfl⟩
  have hS : va_S A s.heap H [] := by rw [hH]; exact hS
  have hP : va_P (dC, dI) vwCl (wld_X5_isFreeAt cI cJ cZ h_p0 ad_p0 p0_places p0_steps p0_coloured p0_takesFrom) H := by rw [hH]; exact hP
  suffices hG : W p l e ({ frames := 0, cells := 0, slots := 0, locals := 0 }) s m args below meth c H [] 0 0 (MQ below (q_X5_isFreeAt dC dI cI cJ cZ h_p0 ad_p0 p0_places p0_steps p0_coloured p0_takesFrom post A) args s 0 0 A) (F0 m 0 ls []) by rw [hH] at hG; exact hG
  clear hH
  refine lv_iconst (v := 0) hx hb dX5_isFreeAt_0 (by decide) ?_
  refine lv_istore_n (lv' := [(2, .int (0 : Int32)), (0, .ref h_p0), (1, .int a1)]) hx hb dX5_isFreeAt_1 rfl hl (by decide) rfl (fun ls hl => ?_)
  refine lv_iconst (v := 0) hx hb dX5_isFreeAt_2 (by decide) ?_
  refine lv_istore_n (lv' := [(3, .int (0 : Int32)), (2, .int (0 : Int32)), (0, .ref h_p0), (1, .int a1)]) hx hb dX5_isFreeAt_3 rfl hl (by decide) rfl (fun ls hl => ?_)
  refine lv_iconst (v := 0) hx hb dX5_isFreeAt_4 (by decide) ?_
  refine lv_istore (lv' := [(4, .int (0 : Int32)), (3, .int (0 : Int32)), (2, .int (0 : Int32)), (0, .ref h_p0), (1, .int a1)]) hx hb dX5_isFreeAt_5 hl (by decide) rfl (fun ls hl => ?_)
  obtain ⟨n9, hw⟩ := hw
  refine c_X5_isFreeAt_L7 (l := l)  E0 ?_ n9 _ _ _ hw _ _ _ hP hD hS (lv_sub hl [3, 4, 2, 1, 0] rfl)
  · intro v10 v11 v12 H locs ls hw hP hD hS hl
    have hP : va_P (dC, dI) vwCl (wld_X5_isFreeAt cI cJ cZ h_p0 ad_p0 p0_places p0_steps p0_coloured p0_takesFrom) H := hP
    have hD : va_D A (wld_X5_isFreeAt cI cJ cZ h_p0 ad_p0 p0_places p0_steps p0_coloured p0_takesFrom) := hD
    refine lv_iload_n hx hb dX5_isFreeAt_55 rfl (lv_at hl 0 rfl) ?_
    refine lv_iconst (v := 1) hx hb dX5_isFreeAt_56 (by decide) ?_
    refine lv_icmp_eq (tgt := 69) hx hb dX5_isFreeAt_57 (by decide) (fun c13 => ?_) (fun c14 => ?_)
    · have hw := hw.1 c13
      refine lv_iconst (v := 1) hx hb dX5_isFreeAt_69 (by decide) ?_
      refine lv_goto (tgt := 74) hx hb dX5_isFreeAt_70 (by decide) ?_
      exact x_zret (w1 := fun (u : Unit) => (wld_X5_isFreeAt cI cJ cZ h_p0 ad_p0 p0_places p0_steps p0_coloured p0_takesFrom)) hx hb hr hlocks (by decide) () hw hP hD hS dX5_isFreeAt_74
    · have hw := hw.2 c14
      refine lv_iload_n hx hb dX5_isFreeAt_60 rfl (lv_at hl 0 rfl) ?_
      refine lv_iconst (v := 1) hx hb dX5_isFreeAt_61 (by decide) ?_
      refine lv_icmp_le (tgt := 73) hx hb dX5_isFreeAt_62 (by decide) (fun c15 => ?_) (fun c16 => ?_)
      · have hw := hw.1 c15
        refine lv_iconst (v := 0) hx hb dX5_isFreeAt_73 (by decide) ?_
        exact x_zret (w1 := fun (u : Unit) => (wld_X5_isFreeAt cI cJ cZ h_p0 ad_p0 p0_places p0_steps p0_coloured p0_takesFrom)) hx hb hr hlocks (by decide) () hw hP hD hS dX5_isFreeAt_74
      · have hw := hw.2 c16
        refine lv_iload_n hx hb dX5_isFreeAt_65 rfl (lv_at hl 1 rfl) ?_
        refine lv_if_ne (tgt := 73) hx hb dX5_isFreeAt_66 (by decide) (fun c17 => ?_) (fun c18 => ?_)
        · have hw := hw.1 c17
          refine lv_iconst (v := 0) hx hb dX5_isFreeAt_73 (by decide) ?_
          exact x_zret (w1 := fun (u : Unit) => (wld_X5_isFreeAt cI cJ cZ h_p0 ad_p0 p0_places p0_steps p0_coloured p0_takesFrom)) hx hb hr hlocks (by decide) () hw hP hD hS dX5_isFreeAt_74
        · have hw := hw.2 c18
          refine lv_iconst (v := 1) hx hb dX5_isFreeAt_69 (by decide) ?_
          refine lv_goto (tgt := 74) hx hb dX5_isFreeAt_70 (by decide) ?_
          exact x_zret (w1 := fun (u : Unit) => (wld_X5_isFreeAt cI cJ cZ h_p0 ad_p0 p0_places p0_steps p0_coloured p0_takesFrom)) hx hb hr hlocks (by decide) () hw hP hD hS dX5_isFreeAt_74
abbrev wld_X5_isFree (cI cJ cZ : ClassId) (h_p0 : Nat) (ad_p0 : Nat → Nat) (p0_places : Int32) (p0_steps : Int32) (p0_coloured : Int32) (p0_puts : Nat → Int32) (p0_stepKinds : Nat → Int32) (p0_takes : Nat → Int32) (p0_takesFrom : Nat → Int32) : va_W := [(h_p0, .inr (5, [.ref (ad_p0 0), .ref (ad_p0 1), .ref (ad_p0 2), .ref (ad_p0 3), .ref (ad_p0 4), .ref (ad_p0 5), .ref (ad_p0 6), .ref (ad_p0 7), .ref (ad_p0 8), .ref (ad_p0 9), .ref (ad_p0 10), .int p0_places, .int p0_steps, .int p0_coloured])), ((ad_p0 3), .inl (cI, 256, .inl p0_puts)), ((ad_p0 1), .inl (cI, 16, .inl p0_stepKinds)), ((ad_p0 2), .inl (cI, 256, .inl p0_takes)), ((ad_p0 8), .inl (cI, 16, .inl p0_takesFrom))]
abbrev q_X5_isFree (dC : Nat → ClassId) (dI : Nat → Nat → Nat) (cI cJ cZ : ClassId) (h_p0 : Nat) (ad_p0 : Nat → Nat) (p0_places : Int32) (p0_steps : Int32) (p0_coloured : Int32) (p0_puts : Nat → Int32) (p0_stepKinds : Nat → Int32) (p0_takes : Nat → Int32) (p0_takesFrom : Nat → Int32) (post : Int32 → Prop) (A : Nat → Prop) : Array Value → State → Outcome → State → Prop := va_Qi (fun r (u : Unit) => post r ) (fun (u : Unit) t => xPost (dC, dI) A (wld_X5_isFree cI cJ cZ h_p0 ad_p0 p0_places p0_steps p0_coloured p0_puts p0_stepKinds p0_takes p0_takesFrom) t) A
def w_X5_isFree_L19b (p0_coloured : Int32) (p0_places : Int32) (p0_steps : Int32) (p0_puts : Nat → Int32) (p0_stepKinds : Nat → Int32) (p0_takes : Nat → Int32) (p0_takesFrom : Nat → Int32) (post : Int32 → Prop) (K : (Int32) → Prop) (rec : (Int32) → Prop) (v1 : Int32) : Prop :=
    ((p0_steps * (16 : Int32)) ≤ v1 →
      K v1) ∧
    (¬ (p0_steps * (16 : Int32)) ≤ v1 →
      vp_in v1 256 ∧
      ((1 : Int32) < (p0_takes v1.toNatClampNeg) →
        (post (0 : Int32))) ∧
      (¬ (1 : Int32) < (p0_takes v1.toNatClampNeg) →
        vp_in v1 256 ∧
        ((p0_puts v1.toNatClampNeg) ≤ (1 : Int32) →
          ∀ x12 : Int32, x12 = v1 + (1 : Int32) →
          rec x12) ∧
        (¬ (p0_puts v1.toNatClampNeg) ≤ (1 : Int32) →
          (post (0 : Int32)))))
def w_X5_isFree_L19 (p0_coloured : Int32) (p0_places : Int32) (p0_steps : Int32) (p0_puts : Nat → Int32) (p0_stepKinds : Nat → Int32) (p0_takes : Nat → Int32) (p0_takesFrom : Nat → Int32) (post : Int32 → Prop) (K : (Int32) → Prop) : Nat → (Int32) → Prop
  | 0, _ => False
  | n + 1, v1 => w_X5_isFree_L19b p0_coloured p0_places p0_steps p0_puts p0_stepKinds p0_takes p0_takesFrom post K (w_X5_isFree_L19 p0_coloured p0_places p0_steps p0_puts p0_stepKinds p0_takes p0_takesFrom post K n) v1
def w_X5_isFree_L60b (p0_coloured : Int32) (p0_places : Int32) (p0_steps : Int32) (p0_puts : Nat → Int32) (p0_stepKinds : Nat → Int32) (p0_takes : Nat → Int32) (p0_takesFrom : Nat → Int32) (post : Int32 → Prop) (K : (Int32) → Prop) (rec : (Int32) → Prop) (v1 : Int32) : Prop :=
    (p0_places ≤ v1 →
      K v1) ∧
    (¬ p0_places ≤ v1 →
      w_X5_isFreeAt p0_steps p0_takesFrom v1 (fun r17 =>
      (¬ r17 = 0 →
        ∀ x20 : Int32, x20 = v1 + (1 : Int32) →
        rec x20) ∧
      (r17 = 0 →
        (post (0 : Int32)))))
def w_X5_isFree_L60 (p0_coloured : Int32) (p0_places : Int32) (p0_steps : Int32) (p0_puts : Nat → Int32) (p0_stepKinds : Nat → Int32) (p0_takes : Nat → Int32) (p0_takesFrom : Nat → Int32) (post : Int32 → Prop) (K : (Int32) → Prop) : Nat → (Int32) → Prop
  | 0, _ => False
  | n + 1, v1 => w_X5_isFree_L60b p0_coloured p0_places p0_steps p0_puts p0_stepKinds p0_takes p0_takesFrom post K (w_X5_isFree_L60 p0_coloured p0_places p0_steps p0_puts p0_stepKinds p0_takes p0_takesFrom post K n) v1
def w_X5_isFree (p0_coloured : Int32) (p0_places : Int32) (p0_steps : Int32) (p0_puts : Nat → Int32) (p0_stepKinds : Nat → Int32) (p0_takes : Nat → Int32) (p0_takesFrom : Nat → Int32) (post : Int32 → Prop) : Prop :=
  (0 < p0_coloured →
    (post (0 : Int32))) ∧
  (¬ 0 < p0_coloured →
    w_X5_hasStepAbove p0_steps p0_stepKinds (0 : Int32) (fun r3 =>
    (r3 = 0 →
      ∃ n : Nat, w_X5_isFree_L19 p0_coloured p0_places p0_steps p0_puts p0_stepKinds p0_takes p0_takesFrom post (fun v14 =>
          ∃ n : Nat, w_X5_isFree_L60 p0_coloured p0_places p0_steps p0_puts p0_stepKinds p0_takes p0_takesFrom post (fun v22 =>
              (post (1 : Int32))) n (0 : Int32)) n (0 : Int32)) ∧
    (¬ r3 = 0 →
      (post (0 : Int32)))))
set_option maxHeartbeats 4000000 in
set_option maxRecDepth 100000 in
theorem c_X5_isFree_L19 {p : Program} {l : Launch} {e : Env} {s : State} {m : MethodId} {args : Array Value} {below : List Frame} {meth : Method} {c : Code} {dC : Nat → ClassId} {dI : Nat → Nat → Nat} {A : Nat → Prop} {cI cJ cZ : ClassId} {h_p0 : Nat} {ad_p0 : Nat → Nat} {p0_places : Int32} {p0_steps : Int32} {p0_coloured : Int32} {p0_puts : Nat → Int32} {p0_stepKinds : Nat → Int32} {p0_takes : Nat → Int32} {p0_takesFrom : Nat → Int32}  {post : Int32 → Prop} {K : (Int32) → Prop} (E0 : xEnv p s m args meth c cX5_isFree (some .boolean) 2 RX5 wsX5_isFree (dC, dI) cI cJ cZ A) (hk : ∀ (v1 : Int32) (H : Heap) (locs : List Loc) (ls : Array Slot), K v1 → va_P (dC, dI) vwCl (wld_X5_isFree cI cJ cZ h_p0 ad_p0 p0_places p0_steps p0_coloured p0_puts p0_stepKinds p0_takes p0_takesFrom) H → va_D A (wld_X5_isFree cI cJ cZ h_p0 ad_p0 p0_places p0_steps p0_coloured p0_puts p0_stepKinds p0_takes p0_takesFrom) → va_S A s.heap H locs → lv_has ls 2 [(0, .ref h_p0)] → W p l e ({ frames := 1, cells := 0, slots := 0, locals := 24 }) s m args below meth c H locs 0 0 (MQ below (q_X5_isFree dC dI cI cJ cZ h_p0 ad_p0 p0_places p0_steps p0_coloured p0_puts p0_stepKinds p0_takes p0_takesFrom post A) args s 0 0 A) (F0 m 58 ls [])) : ∀ (n : Nat) (v1 : Int32), w_X5_isFree_L19 p0_coloured p0_places p0_steps p0_puts p0_stepKinds p0_takes p0_takesFrom post K n v1 → ∀ (H : Heap) (locs : List Loc) (ls : Array Slot), va_P (dC, dI) vwCl (wld_X5_isFree cI cJ cZ h_p0 ad_p0 p0_places p0_steps p0_coloured p0_puts p0_stepKinds p0_takes p0_takesFrom) H → va_D A (wld_X5_isFree cI cJ cZ h_p0 ad_p0 p0_places p0_steps p0_coloured p0_puts p0_stepKinds p0_takes p0_takesFrom) → va_S A s.heap H locs → lv_has ls 2 [(0, .ref h_p0), (1, .int v1)] → W p l e ({ frames := 1, cells := 0, slots := 0, locals := 24 }) s m args below meth c H locs 0 0 (MQ below (q_X5_isFree dC dI cI cJ cZ h_p0 ad_p0 p0_places p0_steps p0_coloured p0_puts p0_stepKinds p0_takes p0_takesFrom post A) args s 0 0 A) (F0 m 19 ls []) := by
  obtain ⟨hx, hb, hr, hml, hown, hts, hlocks, hK, hA, n1, n2⟩ := id E0
  have iX5 : ∀ w ∈ u_ws RX5 TX5 14, w ∈ wsX5_isFree := fun w h => List.mem_cons_of_mem _ (List.mem_append_right _ h)
  intro n
  induction n with
  | zero => intro v1 hw; exact hw.elim
  | succ n ih =>
    intro v1 hw H locs ls hP hD hS hl
    have hw : w_X5_isFree_L19b p0_coloured p0_places p0_steps p0_puts p0_stepKinds p0_takes p0_takesFrom post K (w_X5_isFree_L19 p0_coloured p0_places p0_steps p0_puts p0_stepKinds p0_takes p0_takesFrom post K n) v1 := hw
    unfold w_X5_isFree_L19b at hw
    refine lv_iload_n hx hb dX5_isFree_19 rfl (lv_at hl 1 rfl) ?_
    refine lv_aload_n hx hb dX5_isFree_20 rfl (lv_at hl 0 rfl) ?_
    refine va_get (D := (dC, dI)) (ci := 5) (v := .int p0_steps) (C := RX5) (T := TX5) (N := 14) hx hb hts iX5 hown hK hP 0 rfl rfl 12 (by decide) (hts (.fieldLink RX5 49 "NetHouse$Net" "steps" "I") (by decide +kernel)) (fun _ h9 => h9) rfl dX5_isFree_21 ?_
    refine lv_bipush (v := 16) hx hb dX5_isFree_24 (by decide) ?_
    refine lv_imul hx hb dX5_isFree_26 ?_
    refine lv_icmp_ge (tgt := 58) hx hb dX5_isFree_27 (by decide) (fun c6 => ?_) (fun c7 => ?_)
    · have hw := hw.1 c6
      exact hk _ _ _ _ hw hP hD hS (lv_sub hl [0] rfl)
    · have hw := hw.2 c7
      refine lv_aload_n hx hb dX5_isFree_30 rfl (lv_at hl 0 rfl) ?_
      refine va_get (D := (dC, dI)) (ci := 5) (v := .ref (ad_p0 2)) (C := RX5) (T := TX5) (N := 14) hx hb hts iX5 hown hK hP 0 rfl rfl 2 (by decide) (hts (.fieldLink RX5 18 "NetHouse$Net" "takes" "[I") (by decide +kernel)) (fun _ h9 => h9) rfl dX5_isFree_31 ?_
      refine lv_iload_n hx hb dX5_isFree_34 rfl (lv_at hl 1 rfl) ?_
      refine va_iald hx hb hK hP 3 0 rfl rfl hw.1 dX5_isFree_35 ?_
      have hw := hw.2
      refine lv_iconst (v := 1) hx hb dX5_isFree_36 (by decide) ?_
      refine lv_icmp_gt (tgt := 50) hx hb dX5_isFree_37 (by decide) (fun c8 => ?_) (fun c9 => ?_)
      · have hw := hw.1 c8
        refine lv_iconst (v := 0) hx hb dX5_isFree_50 (by decide) ?_
        exact x_zret (w1 := fun (u : Unit) => (wld_X5_isFree cI cJ cZ h_p0 ad_p0 p0_places p0_steps p0_coloured p0_puts p0_stepKinds p0_takes p0_takesFrom)) hx hb hr hlocks (by decide) () hw hP hD hS dX5_isFree_51
      · have hw := hw.2 c9
        refine lv_aload_n hx hb dX5_isFree_40 rfl (lv_at hl 0 rfl) ?_
        refine va_get (D := (dC, dI)) (ci := 5) (v := .ref (ad_p0 3)) (C := RX5) (T := TX5) (N := 14) hx hb hts iX5 hown hK hP 0 rfl rfl 3 (by decide) (hts (.fieldLink RX5 21 "NetHouse$Net" "puts" "[I") (by decide +kernel)) (fun _ h9 => h9) rfl dX5_isFree_41 ?_
        refine lv_iload_n hx hb dX5_isFree_44 rfl (lv_at hl 1 rfl) ?_
        refine va_iald hx hb hK hP 1 0 rfl rfl hw.1 dX5_isFree_45 ?_
        have hw := hw.2
        refine lv_iconst (v := 1) hx hb dX5_isFree_46 (by decide) ?_
        refine lv_icmp_le (tgt := 52) hx hb dX5_isFree_47 (by decide) (fun c10 => ?_) (fun c11 => ?_)
        · have hw := hw.1 c10
          obtain ⟨x12, ex12⟩ : ∃ y : Int32, y = v1 + (1 : Int32) := ⟨_, rfl⟩
          have hw := hw x12 ex12
          refine lv_iinc (v := x12) (lv' := [(1, .int x12), (0, .ref h_p0)]) hx hb dX5_isFree_52 hl (k := 1) rfl (by rw [ex12]; rfl) (by decide) rfl (fun ls hl => ?_)
          refine lv_goto (tgt := 19) hx hb dX5_isFree_55 (by decide) ?_
          exact ih _ hw _ _ _ hP hD hS (lv_sub hl [1, 0] rfl)
        · have hw := hw.2 c11
          refine lv_iconst (v := 0) hx hb dX5_isFree_50 (by decide) ?_
          exact x_zret (w1 := fun (u : Unit) => (wld_X5_isFree cI cJ cZ h_p0 ad_p0 p0_places p0_steps p0_coloured p0_puts p0_stepKinds p0_takes p0_takesFrom)) hx hb hr hlocks (by decide) () hw hP hD hS dX5_isFree_51
set_option maxHeartbeats 4000000 in
set_option maxRecDepth 100000 in
theorem c_X5_isFree_L60 {p : Program} {l : Launch} {e : Env} {s : State} {m : MethodId} {args : Array Value} {below : List Frame} {meth : Method} {c : Code} {dC : Nat → ClassId} {dI : Nat → Nat → Nat} {A : Nat → Prop} {cI cJ cZ : ClassId} {h_p0 : Nat} {ad_p0 : Nat → Nat} {p0_places : Int32} {p0_steps : Int32} {p0_coloured : Int32} {p0_puts : Nat → Int32} {p0_stepKinds : Nat → Int32} {p0_takes : Nat → Int32} {p0_takesFrom : Nat → Int32}  {post : Int32 → Prop} {K : (Int32) → Prop} (E0 : xEnv p s m args meth c cX5_isFree (some .boolean) 2 RX5 wsX5_isFree (dC, dI) cI cJ cZ A) (hk : ∀ (v1 : Int32) (H : Heap) (locs : List Loc) (ls : Array Slot), K v1 → va_P (dC, dI) vwCl (wld_X5_isFree cI cJ cZ h_p0 ad_p0 p0_places p0_steps p0_coloured p0_puts p0_stepKinds p0_takes p0_takesFrom) H → va_D A (wld_X5_isFree cI cJ cZ h_p0 ad_p0 p0_places p0_steps p0_coloured p0_puts p0_stepKinds p0_takes p0_takesFrom) → va_S A s.heap H locs → lv_has ls 2 [] → W p l e ({ frames := 1, cells := 0, slots := 0, locals := 24 }) s m args below meth c H locs 0 0 (MQ below (q_X5_isFree dC dI cI cJ cZ h_p0 ad_p0 p0_places p0_steps p0_coloured p0_puts p0_stepKinds p0_takes p0_takesFrom post A) args s 0 0 A) (F0 m 84 ls [])) : ∀ (n : Nat) (v1 : Int32), w_X5_isFree_L60 p0_coloured p0_places p0_steps p0_puts p0_stepKinds p0_takes p0_takesFrom post K n v1 → ∀ (H : Heap) (locs : List Loc) (ls : Array Slot), va_P (dC, dI) vwCl (wld_X5_isFree cI cJ cZ h_p0 ad_p0 p0_places p0_steps p0_coloured p0_puts p0_stepKinds p0_takes p0_takesFrom) H → va_D A (wld_X5_isFree cI cJ cZ h_p0 ad_p0 p0_places p0_steps p0_coloured p0_puts p0_stepKinds p0_takes p0_takesFrom) → va_S A s.heap H locs → lv_has ls 2 [(0, .ref h_p0), (1, .int v1)] → W p l e ({ frames := 1, cells := 0, slots := 0, locals := 24 }) s m args below meth c H locs 0 0 (MQ below (q_X5_isFree dC dI cI cJ cZ h_p0 ad_p0 p0_places p0_steps p0_coloured p0_puts p0_stepKinds p0_takes p0_takesFrom post A) args s 0 0 A) (F0 m 60 ls []) := by
  obtain ⟨hx, hb, hr, hml, hown, hts, hlocks, hK, hA, n1, n2⟩ := id E0
  have iX5 : ∀ w ∈ u_ws RX5 TX5 14, w ∈ wsX5_isFree := fun w h => List.mem_cons_of_mem _ (List.mem_append_right _ h)
  intro n
  induction n with
  | zero => intro v1 hw; exact hw.elim
  | succ n ih =>
    intro v1 hw H locs ls hP hD hS hl
    have hw : w_X5_isFree_L60b p0_coloured p0_places p0_steps p0_puts p0_stepKinds p0_takes p0_takesFrom post K (w_X5_isFree_L60 p0_coloured p0_places p0_steps p0_puts p0_stepKinds p0_takes p0_takesFrom post K n) v1 := hw
    unfold w_X5_isFree_L60b at hw
    refine lv_iload_n hx hb dX5_isFree_60 rfl (lv_at hl 1 rfl) ?_
    refine lv_aload_n hx hb dX5_isFree_61 rfl (lv_at hl 0 rfl) ?_
    refine va_get (D := (dC, dI)) (ci := 5) (v := .int p0_places) (C := RX5) (T := TX5) (N := 14) hx hb hts iX5 hown hK hP 0 rfl rfl 11 (by decide) (hts (.fieldLink RX5 45 "NetHouse$Net" "places" "I") (by decide +kernel)) (fun _ h9 => h9) rfl dX5_isFree_62 ?_
    refine lv_icmp_ge (tgt := 84) hx hb dX5_isFree_65 (by decide) (fun c15 => ?_) (fun c16 => ?_)
    · have hw := hw.1 c15
      exact hk _ _ _ _ hw hP hD hS (lv_sub hl [] rfl)
    · have hw := hw.2 c16
      refine lv_aload_n hx hb dX5_isFree_68 rfl (lv_at hl 0 rfl) ?_
      refine lv_iload_n hx hb dX5_isFree_69 rfl (lv_at hl 1 rfl) ?_
      obtain ⟨hPc, hDc⟩ := x_sub (wc := (wld_X5_isFreeAt cI cJ cZ h_p0 ad_p0 p0_places p0_steps p0_coloured p0_takesFrom)) hP hD [0, 4] (n := 5) rfl rfl (by decide +kernel)
      refine x_calli (ws' := fun (u : Unit) => (wld_X5_isFree cI cJ cZ h_p0 ad_p0 p0_places p0_steps p0_coloured p0_puts p0_stepKinds p0_takes p0_takesFrom)) hP hD hS hA [0, 4] [1, 2, 3] [3, 0, 1, 2, 4] (n := 5) (k := 2) rfl (fun _ => rfl) rfl (by decide +kernel) (fun _ => rfl) (va_runV (As := [.int v1]) (rest := []) ⟨hx, hb, hml, hown, hts⟩ (c_X5_isFreeAt (l := l) (dC := dC) (dI := dI) (cI := cI) (cJ := cJ) (cZ := cZ) (sz := H.size) (h_p0 := h_p0) (ad_p0 := ad_p0) (p0_places := p0_places) (p0_steps := p0_steps) (p0_coloured := p0_coloured) (p0_takesFrom := p0_takesFrom) hw) (cwV 1 hts gX5_isFree_X5_isFreeAt rfl rfl rfl (by decide +kernel) ⟨Nat.le_of_ble_eq_true rfl, Nat.le_of_ble_eq_true rfl⟩) ⟨xPre_blind, va_recv hK hP (ci := 5) (q0 := 0) rfl rfl, xPre_at hK hPc hDc n1 n2⟩ rfl rfl hl.1 rfl (lv_room (Nat.le_of_ble_eq_true rfl)) dX5_isFree_70 ⟨Nat.zero_le _, Nat.zero_le _⟩) (fun r17 u H locs hw hP hD hS => ?_)
      try dsimp only at hw
      have hP : va_P (dC, dI) vwCl (wld_X5_isFree cI cJ cZ h_p0 ad_p0 p0_places p0_steps p0_coloured p0_puts p0_stepKinds p0_takes p0_takesFrom) H := hP
      have hD : va_D A (wld_X5_isFree cI cJ cZ h_p0 ad_p0 p0_places p0_steps p0_coloured p0_puts p0_stepKinds p0_takes p0_takesFrom) := hD
      refine lv_if_ne (tgt := 78) hx hb dX5_isFree_73 (by decide) (fun c18 => ?_) (fun c19 => ?_)
      · have hw := hw.1 c18
        obtain ⟨x20, ex20⟩ : ∃ y : Int32, y = v1 + (1 : Int32) := ⟨_, rfl⟩
        have hw := hw x20 ex20
        refine lv_iinc (v := x20) (lv' := [(1, .int x20), (0, .ref h_p0)]) hx hb dX5_isFree_78 hl (k := 1) rfl (by rw [ex20]; rfl) (by decide) rfl (fun ls hl => ?_)
        refine lv_goto (tgt := 60) hx hb dX5_isFree_81 (by decide) ?_
        exact ih _ hw _ _ _ hP hD hS (lv_sub hl [1, 0] rfl)
      · have hw := hw.2 c19
        refine lv_iconst (v := 0) hx hb dX5_isFree_76 (by decide) ?_
        exact x_zret (w1 := fun (u : Unit) => (wld_X5_isFree cI cJ cZ h_p0 ad_p0 p0_places p0_steps p0_coloured p0_puts p0_stepKinds p0_takes p0_takesFrom)) hx hb hr hlocks (by decide) () hw hP hD hS dX5_isFree_77
set_option maxHeartbeats 4000000 in
set_option maxRecDepth 100000 in
theorem c_X5_isFree {l : Launch} {dC : Nat → ClassId} {dI : Nat → Nat → Nat} {sz : Nat} {cI cJ cZ : ClassId} {h_p0 : Nat} {ad_p0 : Nat → Nat} {p0_places : Int32} {p0_steps : Int32} {p0_coloured : Int32} {p0_puts : Nat → Int32} {p0_stepKinds : Nat → Int32} {p0_takes : Nat → Int32} {p0_takesFrom : Nat → Int32}  {post : Int32 → Prop} (hw : w_X5_isFree p0_coloured p0_places p0_steps p0_puts p0_stepKinds p0_takes p0_takesFrom post) : Met l yX5_isFree wsX5_isFree ({ frames := 1, cells := 0, slots := 0, locals := 24 }) (va_Pc [.ref h_p0] (xPre (dC, dI) cI cJ cZ (wld_X5_isFree cI cJ cZ h_p0 ad_p0 p0_places p0_steps p0_coloured p0_puts p0_stepKinds p0_takes p0_takesFrom) sz)) (q_X5_isFree dC dI cI cJ cZ h_p0 ad_p0 p0_places p0_steps p0_coloured p0_puts p0_stepKinds p0_takes p0_takesFrom post (va_A (wld_X5_isFree cI cJ cZ h_p0 ad_p0 p0_places p0_steps p0_coloured p0_puts p0_stepKinds p0_takes p0_takesFrom) sz)) 0 0 (va_A (wld_X5_isFree cI cJ cZ h_p0 ad_p0 p0_places p0_steps p0_coloured p0_puts p0_stepKinds p0_takes p0_takesFrom) sz) := by
  refine x_met (cc := cX5_isFree) (maxL := 2) (ret := (some .boolean)) (own := RX5) (Qc := fun A => (q_X5_isFree dC dI cI cJ cZ h_p0 ad_p0 p0_places p0_steps p0_coloured p0_puts p0_stepKinds p0_takes p0_takesFrom post A)) (by decide) rfl rfl (Nat.le_of_ble_eq_true rfl) ?_
  intro p e s m args below meth c A ls E0 hP hD hS hl
  obtain ⟨hx, hb, hr, hml, hown, hts, hlocks, hK, hA, n1, n2⟩ := id E0
  have iX5 : ∀ w ∈ u_ws RX5 TX5 14, w ∈ wsX5_isFree := fun w h => List.mem_cons_of_mem _ (List.mem_append_right _ h)
  have hS0 := hS
  have hl : lv_has ls 2 [(0, .ref h_p0)] := hl
  unfold w_X5_isFree at hw
  obtain ⟨H, hH⟩ : ∃ H, H = s.heap := ⟨_, rfl⟩
  have hS : va_S A s.heap H [] := by rw [hH]; exact hS
  have hP : va_P (dC, dI) vwCl (wld_X5_isFree cI cJ cZ h_p0 ad_p0 p0_places p0_steps p0_coloured p0_puts p0_stepKinds p0_takes p0_takesFrom) H := by rw [hH]; exact hP
  suffices hG : W p l e ({ frames := 1, cells := 0, slots := 0, locals := 24 }) s m args below meth c H [] 0 0 (MQ below (q_X5_isFree dC dI cI cJ cZ h_p0 ad_p0 p0_places p0_steps p0_coloured p0_puts p0_stepKinds p0_takes p0_takesFrom post A) args s 0 0 A) (F0 m 0 ls []) by rw [hH] at hG; exact hG
  clear hH
  refine lv_aload_n hx hb dX5_isFree_0 rfl (lv_at hl 0 rfl) ?_
  refine va_get (D := (dC, dI)) (ci := 5) (v := .int p0_coloured) (C := RX5) (T := TX5) (N := 14) hx hb hts iX5 hown hK hP 0 rfl rfl 13 (by decide) (hts (.fieldLink RX5 52 "NetHouse$Net" "coloured" "I") (by decide +kernel)) (fun _ h9 => h9) rfl dX5_isFree_1 ?_
  refine lv_if_gt (tgt := 15) hx hb dX5_isFree_4 (by decide) (fun c1 => ?_) (fun c2 => ?_)
  · have hw := hw.1 c1
    refine lv_iconst (v := 0) hx hb dX5_isFree_15 (by decide) ?_
    exact x_zret (w1 := fun (u : Unit) => (wld_X5_isFree cI cJ cZ h_p0 ad_p0 p0_places p0_steps p0_coloured p0_puts p0_stepKinds p0_takes p0_takesFrom)) hx hb hr hlocks (by decide) () hw hP hD hS dX5_isFree_16
  · have hw := hw.2 c2
    refine lv_aload_n hx hb dX5_isFree_7 rfl (lv_at hl 0 rfl) ?_
    refine lv_iconst (v := 0) hx hb dX5_isFree_8 (by decide) ?_
    obtain ⟨hPc, hDc⟩ := x_sub (wc := (wld_X5_hasStepAbove cI cJ cZ h_p0 ad_p0 p0_places p0_steps p0_coloured p0_stepKinds)) hP hD [0, 2] (n := 5) rfl rfl (by decide +kernel)
    refine x_calli (ws' := fun (u : Unit) => (wld_X5_isFree cI cJ cZ h_p0 ad_p0 p0_places p0_steps p0_coloured p0_puts p0_stepKinds p0_takes p0_takesFrom)) hP hD hS hA [0, 2] [1, 3, 4] [3, 0, 4, 1, 2] (n := 5) (k := 2) rfl (fun _ => rfl) rfl (by decide +kernel) (fun _ => rfl) (va_runV (As := [.int (0 : Int32)]) (rest := []) ⟨hx, hb, hml, hown, hts⟩ (c_X5_hasStepAbove (l := l) (dC := dC) (dI := dI) (cI := cI) (cJ := cJ) (cZ := cZ) (sz := H.size) (h_p0 := h_p0) (ad_p0 := ad_p0) (p0_places := p0_places) (p0_steps := p0_steps) (p0_coloured := p0_coloured) (p0_stepKinds := p0_stepKinds) hw) (cwV 1 hts gX5_isFree_X5_hasStepAbove rfl rfl rfl (by decide +kernel) ⟨Nat.le_of_ble_eq_true rfl, Nat.le_of_ble_eq_true rfl⟩) ⟨xPre_blind, va_recv hK hP (ci := 5) (q0 := 0) rfl rfl, xPre_at hK hPc hDc n1 n2⟩ rfl rfl hl.1 rfl (lv_room (Nat.le_of_ble_eq_true rfl)) dX5_isFree_9 ⟨Nat.zero_le _, Nat.zero_le _⟩) (fun r3 u H locs hw hP hD hS => ?_)
    try dsimp only at hw
    have hP : va_P (dC, dI) vwCl (wld_X5_isFree cI cJ cZ h_p0 ad_p0 p0_places p0_steps p0_coloured p0_puts p0_stepKinds p0_takes p0_takesFrom) H := hP
    have hD : va_D A (wld_X5_isFree cI cJ cZ h_p0 ad_p0 p0_places p0_steps p0_coloured p0_puts p0_stepKinds p0_takes p0_takesFrom) := hD
    refine lv_if_eq (tgt := 17) hx hb dX5_isFree_12 (by decide) (fun c4 => ?_) (fun c5 => ?_)
    · have hw := hw.1 c4
      refine lv_iconst (v := 0) hx hb dX5_isFree_17 (by decide) ?_
      refine lv_istore_n (lv' := [(1, .int (0 : Int32)), (0, .ref h_p0)]) hx hb dX5_isFree_18 rfl hl (by decide) rfl (fun ls hl => ?_)
      obtain ⟨n13, hw⟩ := hw
      refine c_X5_isFree_L19 (l := l)  E0 ?_ n13 _ hw _ _ _ hP hD hS (lv_sub hl [1, 0] rfl)
      · intro v14 H locs ls hw hP hD hS hl
        have hP : va_P (dC, dI) vwCl (wld_X5_isFree cI cJ cZ h_p0 ad_p0 p0_places p0_steps p0_coloured p0_puts p0_stepKinds p0_takes p0_takesFrom) H := hP
        have hD : va_D A (wld_X5_isFree cI cJ cZ h_p0 ad_p0 p0_places p0_steps p0_coloured p0_puts p0_stepKinds p0_takes p0_takesFrom) := hD
        refine lv_iconst (v := 0) hx hb dX5_isFree_58 (by decide) ?_
        refine lv_istore_n (lv' := [(1, .int (0 : Int32)), (0, .ref h_p0)]) hx hb dX5_isFree_59 rfl hl (by decide) rfl (fun ls hl => ?_)
        obtain ⟨n21, hw⟩ := hw
        refine c_X5_isFree_L60 (l := l)  E0 ?_ n21 _ hw _ _ _ hP hD hS (lv_sub hl [1, 0] rfl)
        · intro v22 H locs ls hw hP hD hS hl
          have hP : va_P (dC, dI) vwCl (wld_X5_isFree cI cJ cZ h_p0 ad_p0 p0_places p0_steps p0_coloured p0_puts p0_stepKinds p0_takes p0_takesFrom) H := hP
          have hD : va_D A (wld_X5_isFree cI cJ cZ h_p0 ad_p0 p0_places p0_steps p0_coloured p0_puts p0_stepKinds p0_takes p0_takesFrom) := hD
          refine lv_iconst (v := 1) hx hb dX5_isFree_84 (by decide) ?_
          exact x_zret (w1 := fun (u : Unit) => (wld_X5_isFree cI cJ cZ h_p0 ad_p0 p0_places p0_steps p0_coloured p0_puts p0_stepKinds p0_takes p0_takesFrom)) hx hb hr hlocks (by decide) () hw hP hD hS dX5_isFree_85
    · have hw := hw.2 c5
      refine lv_iconst (v := 0) hx hb dX5_isFree_15 (by decide) ?_
      exact x_zret (w1 := fun (u : Unit) => (wld_X5_isFree cI cJ cZ h_p0 ad_p0 p0_places p0_steps p0_coloured p0_puts p0_stepKinds p0_takes p0_takesFrom)) hx hb hr hlocks (by decide) () hw hP hD hS dX5_isFree_16
abbrev wld_X6_clear (cI cJ cZ : ClassId) (h_p0 : Nat) (ad_p0 : Nat → Nat) (p0_size : Int32) (p0_end : Int32) : va_W := [(h_p0, .inr (6, [.ref (ad_p0 0), .ref (ad_p0 1), .int p0_size, .int p0_end]))]
abbrev q_X6_clear (dC : Nat → ClassId) (dI : Nat → Nat → Nat) (cI cJ cZ : ClassId) (h_p0 : Nat) (ad_p0 : Nat → Nat) (p0_size : Int32) (p0_end : Int32) (post : (Int32) → Prop) (A : Nat → Prop) : Array Value → State → Outcome → State → Prop := va_Qv (fun (u : (Int32)) => post u) (fun (u : (Int32)) t => xPost (dC, dI) A (wld_X6_clear cI cJ cZ h_p0 ad_p0 u p0_end) t) A
def w_X6_clear (p0_size : Int32) (post : (Int32) → Prop) : Prop :=
  (post (0 : Int32))
set_option maxHeartbeats 4000000 in
set_option maxRecDepth 100000 in
theorem c_X6_clear {l : Launch} {dC : Nat → ClassId} {dI : Nat → Nat → Nat} {sz : Nat} {cI cJ cZ : ClassId} {h_p0 : Nat} {ad_p0 : Nat → Nat} {p0_size : Int32} {p0_end : Int32}  {post : (Int32) → Prop} (hw : w_X6_clear p0_size post) : Met l yX6_clear wsX6_clear ({ frames := 0, cells := 0, slots := 0, locals := 0 }) (va_Pc [.ref h_p0] (xPre (dC, dI) cI cJ cZ (wld_X6_clear cI cJ cZ h_p0 ad_p0 p0_size p0_end) sz)) (q_X6_clear dC dI cI cJ cZ h_p0 ad_p0 p0_size p0_end post (va_A (wld_X6_clear cI cJ cZ h_p0 ad_p0 p0_size p0_end) sz)) 0 0 (va_A (wld_X6_clear cI cJ cZ h_p0 ad_p0 p0_size p0_end) sz) := by
  refine x_met (cc := cX6_clear) (maxL := 1) (ret := none) (own := RX6) (Qc := fun A => (q_X6_clear dC dI cI cJ cZ h_p0 ad_p0 p0_size p0_end post A)) (by decide) rfl rfl (Nat.le_of_ble_eq_true rfl) ?_
  intro p e s m args below meth c A ls E0 hP hD hS hl
  obtain ⟨hx, hb, hr, hml, hown, hts, hlocks, hK, hA, n1, n2⟩ := id E0
  have iX6 : ∀ w ∈ u_ws RX6 TX6 4, w ∈ wsX6_clear := fun w h => List.mem_cons_of_mem _ (List.mem_append_right _ h)
  have hS0 := hS
  have hl : lv_has ls 1 [(0, .ref h_p0)] := hl
  unfold w_X6_clear at hw
  obtain ⟨H, hH⟩ : ∃ H, H = s.heap := ⟨_, rfl⟩
  have hS : va_S A s.heap H [] := by rw [hH]; exact hS
  have hP : va_P (dC, dI) vwCl (wld_X6_clear cI cJ cZ h_p0 ad_p0 p0_size p0_end) H := by rw [hH]; exact hP
  suffices hG : W p l e ({ frames := 0, cells := 0, slots := 0, locals := 0 }) s m args below meth c H [] 0 0 (MQ below (q_X6_clear dC dI cI cJ cZ h_p0 ad_p0 p0_size p0_end post A) args s 0 0 A) (F0 m 0 ls []) by rw [hH] at hG; exact hG
  clear hH
  refine lv_aload_n hx hb dX6_clear_0 rfl (lv_at hl 0 rfl) ?_
  refine lv_iconst (v := 0) hx hb dX6_clear_1 (by decide) ?_
  refine va_put (D := (dC, dI)) (ci := 6) (v := .int (0 : Int32)) (ty := .int) (C := RX6) (T := TX6) (N := 4) hx hb hts iX6 tyX6 tyX6_ok nmX6 hown hK hP hD hS 0 rfl rfl 2 (by decide) (hts (.fieldLink RX6 19 "NetHouse$Past" "size" "I") (by decide +kernel)) (fun _ h9 => h9) rfl (by decide +kernel) rfl rfl (Nat.le_of_ble_eq_true rfl) dX6_clear_2 (fun H locs hP hD hS => ?_)
  have hP : va_P (dC, dI) vwCl (wld_X6_clear cI cJ cZ h_p0 ad_p0 (0 : Int32) p0_end) H := hP
  have hD : va_D A (wld_X6_clear cI cJ cZ h_p0 ad_p0 (0 : Int32) p0_end) := hD
  exact x_vret (w1 := fun (u : (Int32)) => (wld_X6_clear cI cJ cZ h_p0 ad_p0 u p0_end)) hx hb hr hlocks ((0 : Int32)) hw hP hD hS dX6_clear_5
abbrev wld_X6_note (cI cJ cZ : ClassId) (h_p0 : Nat) (h_p1 : Nat) (h_p2 : Nat) (ad_p0 : Nat → Nat) (ad_p1 : Nat → Nat) (ad_p2 : Nat → Nat) (p0_size : Int32) (p0_end : Int32) (p1_places : Int32) (p1_steps : Int32) (p1_coloured : Int32) (p0_steps : Nat → Int32) (p0_things : Nat → Int64) (p2_things : Nat → Int64) : va_W := [(h_p0, .inr (6, [.ref (ad_p0 0), .ref (ad_p0 1), .int p0_size, .int p0_end])), ((ad_p0 0), .inl (cI, 256, .inl p0_steps)), ((ad_p0 1), .inl (cJ, 4096, .inr (.inl p0_things))), (h_p1, .inr (5, [.ref (ad_p1 0), .ref (ad_p1 1), .ref (ad_p1 2), .ref (ad_p1 3), .ref (ad_p1 4), .ref (ad_p1 5), .ref (ad_p1 6), .ref (ad_p1 7), .ref (ad_p1 8), .ref (ad_p1 9), .ref (ad_p1 10), .int p1_places, .int p1_steps, .int p1_coloured])), (h_p2, .inr (3, [.ref (ad_p2 0), .ref (ad_p2 1)])), ((ad_p2 1), .inl (cJ, 16, .inr (.inl p2_things)))]
abbrev q_X6_note (dC : Nat → ClassId) (dI : Nat → Nat → Nat) (cI cJ cZ : ClassId) (h_p0 : Nat) (h_p1 : Nat) (h_p2 : Nat) (ad_p0 : Nat → Nat) (ad_p1 : Nat → Nat) (ad_p2 : Nat → Nat) (p0_size : Int32) (p0_end : Int32) (p1_places : Int32) (p1_steps : Int32) (p1_coloured : Int32) (p0_steps : Nat → Int32) (p0_things : Nat → Int64) (p2_things : Nat → Int64) (post : (Int32) → (Int32) → (Nat → Int32) → (Nat → Int64) → Prop) (A : Nat → Prop) : Array Value → State → Outcome → State → Prop := va_Qv (fun (u : (Int32) × (Int32) × (Nat → Int32) × (Nat → Int64)) => post (u.1) (u.2.1) (u.2.2.1) (u.2.2.2)) (fun (u : (Int32) × (Int32) × (Nat → Int32) × (Nat → Int64)) t => xPost (dC, dI) A (wld_X6_note cI cJ cZ h_p0 h_p1 h_p2 ad_p0 ad_p1 ad_p2 (u.2.1) (u.1) p1_places p1_steps p1_coloured (u.2.2.1) (u.2.2.2) p2_things) t) A
def w_X6_note (p0_end : Int32) (p0_size : Int32) (p1_coloured : Int32) (p0_steps : Nat → Int32) (p0_things : Nat → Int64) (p2_things : Nat → Int64) (a3 : Int32) (post : (Int32) → (Int32) → (Nat → Int32) → (Nat → Int64) → Prop) : Prop :=
  (p1_coloured ≤ 0 →
    vp_in p0_end 256 ∧
    ∀ x3 : Int32, x3 = ((p0_end + (1 : Int32)) - (p0_end + (1 : Int32)) / (256 : Int32) * (256 : Int32)) →
    ∀ x4 : Int32, x4 = (if (256 : Int32) < (p0_size + (1 : Int32)) then (256 : Int32) else (p0_size + (1 : Int32))) →
    (post x3 x4 (upd p0_steps p0_end.toNatClampNeg a3) p0_things)) ∧
  (¬ p1_coloured ≤ 0 →
    (¬ (0 : Int32) < 0 ∧ ¬ (p0_end * (16 : Int32)) < 0 ∧ ¬ (16 : Int32) < 0 ∧ (0 : Int32).toNatClampNeg + (16 : Int32).toNatClampNeg ≤ 16 ∧ (p0_end * (16 : Int32)).toNatClampNeg + (16 : Int32).toNatClampNeg ≤ 4096) ∧
    vp_in p0_end 256 ∧
    ∀ x5 : Int32, x5 = ((p0_end + (1 : Int32)) - (p0_end + (1 : Int32)) / (256 : Int32) * (256 : Int32)) →
    ∀ x6 : Int32, x6 = (if (256 : Int32) < (p0_size + (1 : Int32)) then (256 : Int32) else (p0_size + (1 : Int32))) →
    (post x5 x6 (upd p0_steps p0_end.toNatClampNeg a3) (va_cpy p2_things p0_things (0 : Int32).toNatClampNeg (p0_end * (16 : Int32)).toNatClampNeg (16 : Int32).toNatClampNeg)))
set_option maxHeartbeats 4000000 in
set_option maxRecDepth 100000 in
theorem c_X6_note {l : Launch} {dC : Nat → ClassId} {dI : Nat → Nat → Nat} {sz : Nat} {cI cJ cZ : ClassId} {h_p0 : Nat} {h_p1 : Nat} {h_p2 : Nat} {ad_p0 : Nat → Nat} {ad_p1 : Nat → Nat} {ad_p2 : Nat → Nat} {p0_size : Int32} {p0_end : Int32} {p1_places : Int32} {p1_steps : Int32} {p1_coloured : Int32} {p0_steps : Nat → Int32} {p0_things : Nat → Int64} {p2_things : Nat → Int64} {a3 : Int32} {post : (Int32) → (Int32) → (Nat → Int32) → (Nat → Int64) → Prop} (hw : w_X6_note p0_end p0_size p1_coloured p0_steps p0_things p2_things a3 post) : Met l yX6_note wsX6_note ({ frames := 1, cells := 0, slots := 0, locals := 30 }) (va_Pc [.ref h_p0, .ref h_p1, .ref h_p2, .int a3] (xPre (dC, dI) cI cJ cZ (wld_X6_note cI cJ cZ h_p0 h_p1 h_p2 ad_p0 ad_p1 ad_p2 p0_size p0_end p1_places p1_steps p1_coloured p0_steps p0_things p2_things) sz)) (q_X6_note dC dI cI cJ cZ h_p0 h_p1 h_p2 ad_p0 ad_p1 ad_p2 p0_size p0_end p1_places p1_steps p1_coloured p0_steps p0_things p2_things post (va_A (wld_X6_note cI cJ cZ h_p0 h_p1 h_p2 ad_p0 ad_p1 ad_p2 p0_size p0_end p1_places p1_steps p1_coloured p0_steps p0_things p2_things) sz)) 0 0 (va_A (wld_X6_note cI cJ cZ h_p0 h_p1 h_p2 ad_p0 ad_p1 ad_p2 p0_size p0_end p1_places p1_steps p1_coloured p0_steps p0_things p2_things) sz) := by
  refine x_met (cc := cX6_note) (maxL := 4) (ret := none) (own := RX6) (Qc := fun A => (q_X6_note dC dI cI cJ cZ h_p0 h_p1 h_p2 ad_p0 ad_p1 ad_p2 p0_size p0_end p1_places p1_steps p1_coloured p0_steps p0_things p2_things post A)) (by decide) rfl rfl (Nat.le_of_ble_eq_true rfl) ?_
  intro p e s m args below meth c A ls E0 hP hD hS hl
  obtain ⟨hx, hb, hr, hml, hown, hts, hlocks, hK, hA, n1, n2⟩ := id E0
  have iX3 : ∀ w ∈ u_ws RX3 TX3 2, w ∈ wsX6_note := fun w h => List.mem_cons_of_mem _ (List.mem_append_left _ (List.mem_append_right _ h))
  have iX5 : ∀ w ∈ u_ws RX5 TX5 14, w ∈ wsX6_note := fun w h => List.mem_cons_of_mem _ (List.mem_append_left _ (List.mem_append_left _ (List.mem_append_right _ h)))
  have iX6 : ∀ w ∈ u_ws RX6 TX6 4, w ∈ wsX6_note := fun w h => List.mem_cons_of_mem _ (List.mem_append_right _ h)
  have hS0 := hS
  have hl : lv_has ls 4 [(0, .ref h_p0), (1, .ref h_p1), (2, .ref h_p2), (3, .int a3)] := hl
  unfold w_X6_note at hw
  obtain ⟨H, hH⟩ : ∃ H, H = s.heap := ⟨_, rfl⟩
  have hS : va_S A s.heap H [] := by rw [hH]; exact hS
  have hP : va_P (dC, dI) vwCl (wld_X6_note cI cJ cZ h_p0 h_p1 h_p2 ad_p0 ad_p1 ad_p2 p0_size p0_end p1_places p1_steps p1_coloured p0_steps p0_things p2_things) H := by rw [hH]; exact hP
  suffices hG : W p l e ({ frames := 1, cells := 0, slots := 0, locals := 30 }) s m args below meth c H [] 0 0 (MQ below (q_X6_note dC dI cI cJ cZ h_p0 h_p1 h_p2 ad_p0 ad_p1 ad_p2 p0_size p0_end p1_places p1_steps p1_coloured p0_steps p0_things p2_things post A) args s 0 0 A) (F0 m 0 ls []) by rw [hH] at hG; exact hG
  clear hH
  refine lv_aload_n hx hb dX6_note_0 rfl (lv_at hl 1 rfl) ?_
  refine va_get (D := (dC, dI)) (ci := 5) (v := .int p1_coloured) (C := RX5) (T := TX5) (N := 14) hx hb hts iX5 hown hK hP 3 rfl rfl 13 (by decide) (hts (.fieldLink RX6 26 "NetHouse$Net" "coloured" "I") (by decide +kernel)) (fun _ h9 => h9) rfl dX6_note_1 ?_
  refine lv_if_le (tgt := 28) hx hb dX6_note_4 (by decide) (fun c1 => ?_) (fun c2 => ?_)
  · have hw := hw.1 c1
    refine lv_aload_n hx hb dX6_note_28 rfl (lv_at hl 0 rfl) ?_
    refine va_get (D := (dC, dI)) (ci := 6) (v := .ref (ad_p0 0)) (C := RX6) (T := TX6) (N := 4) hx hb hts iX6 hown hK hP 0 rfl rfl 0 (by decide) (hts (.fieldLink RX6 9 "NetHouse$Past" "steps" "[I") (by decide +kernel)) (fun _ h9 => h9) rfl dX6_note_29 ?_
    refine lv_aload_n hx hb dX6_note_32 rfl (lv_at hl 0 rfl) ?_
    refine va_get (D := (dC, dI)) (ci := 6) (v := .int p0_end) (C := RX6) (T := TX6) (N := 4) hx hb hts iX6 hown hK hP 0 rfl rfl 3 (by decide) (hts (.fieldLink RX6 23 "NetHouse$Past" "end" "I") (by decide +kernel)) (fun _ h9 => h9) rfl dX6_note_33 ?_
    refine lv_iload_n hx hb dX6_note_36 rfl (lv_at hl 3 rfl) ?_
    refine va_iast hx hb hK hP hD hS 1 0 rfl rfl hw.1 dX6_note_37 (fun H locs hP hD hS => ?_)
    have hw := hw.2
    have hP : va_P (dC, dI) vwCl (wld_X6_note cI cJ cZ h_p0 h_p1 h_p2 ad_p0 ad_p1 ad_p2 p0_size p0_end p1_places p1_steps p1_coloured (upd p0_steps p0_end.toNatClampNeg a3) p0_things p2_things) H := hP
    have hD : va_D A (wld_X6_note cI cJ cZ h_p0 h_p1 h_p2 ad_p0 ad_p1 ad_p2 p0_size p0_end p1_places p1_steps p1_coloured (upd p0_steps p0_end.toNatClampNeg a3) p0_things p2_things) := hD
    refine lv_aload_n hx hb dX6_note_38 rfl (lv_at hl 0 rfl) ?_
    refine lv_aload_n hx hb dX6_note_39 rfl (lv_at hl 0 rfl) ?_
    refine va_get (D := (dC, dI)) (ci := 6) (v := .int p0_end) (C := RX6) (T := TX6) (N := 4) hx hb hts iX6 hown hK hP 0 rfl rfl 3 (by decide) (hts (.fieldLink RX6 23 "NetHouse$Past" "end" "I") (by decide +kernel)) (fun _ h9 => h9) rfl dX6_note_40 ?_
    refine lv_iconst (v := 1) hx hb dX6_note_43 (by decide) ?_
    refine lv_iadd hx hb dX6_note_44 ?_
    refine lv_sipush (v := 256) hx hb dX6_note_45 (by decide) ?_
    refine lv_irem hx hb dX6_note_48 (by decide) ?_
    refine lv_topi (fun x3 ex3 => ?_)
    have hw := hw x3 ex3
    refine va_put (D := (dC, dI)) (ci := 6) (v := .int x3) (ty := .int) (C := RX6) (T := TX6) (N := 4) hx hb hts iX6 tyX6 tyX6_ok nmX6 hown hK hP hD hS 0 rfl rfl 3 (by decide) (hts (.fieldLink RX6 23 "NetHouse$Past" "end" "I") (by decide +kernel)) (fun _ h9 => h9) rfl (by decide +kernel) rfl rfl (Nat.le_of_ble_eq_true rfl) dX6_note_49 (fun H locs hP hD hS => ?_)
    have hP : va_P (dC, dI) vwCl (wld_X6_note cI cJ cZ h_p0 h_p1 h_p2 ad_p0 ad_p1 ad_p2 p0_size x3 p1_places p1_steps p1_coloured (upd p0_steps p0_end.toNatClampNeg a3) p0_things p2_things) H := hP
    have hD : va_D A (wld_X6_note cI cJ cZ h_p0 h_p1 h_p2 ad_p0 ad_p1 ad_p2 p0_size x3 p1_places p1_steps p1_coloured (upd p0_steps p0_end.toNatClampNeg a3) p0_things p2_things) := hD
    refine lv_aload_n hx hb dX6_note_52 rfl (lv_at hl 0 rfl) ?_
    refine lv_aload_n hx hb dX6_note_53 rfl (lv_at hl 0 rfl) ?_
    refine va_get (D := (dC, dI)) (ci := 6) (v := .int p0_size) (C := RX6) (T := TX6) (N := 4) hx hb hts iX6 hown hK hP 0 rfl rfl 2 (by decide) (hts (.fieldLink RX6 19 "NetHouse$Past" "size" "I") (by decide +kernel)) (fun _ h9 => h9) rfl dX6_note_54 ?_
    refine lv_iconst (v := 1) hx hb dX6_note_57 (by decide) ?_
    refine lv_iadd hx hb dX6_note_58 ?_
    refine lv_sipush (v := 256) hx hb dX6_note_59 (by decide) ?_
    refine va_mmin hx hb (by rw [hml]; exact hl.1.symm) hown (hts (.methodLink RX6 40 Lib.Math.min.name) (by decide +kernel)) (hts (.static Lib.Math.min.name) (by decide +kernel)) (hts (.initialized "java/lang/Math") (by decide +kernel)) (hts (.code Lib.Math.min.name Lib.Math.min.code 2 (some .int)) (by decide +kernel)) (Nat.le_of_ble_eq_true rfl) (Nat.le_of_ble_eq_true rfl) (Nat.zero_le _) (Nat.zero_le _) dX6_note_62 ?_
    refine lv_topi (fun x4 ex4 => ?_)
    have hw := hw x4 ex4
    refine va_put (D := (dC, dI)) (ci := 6) (v := .int x4) (ty := .int) (C := RX6) (T := TX6) (N := 4) hx hb hts iX6 tyX6 tyX6_ok nmX6 hown hK hP hD hS 0 rfl rfl 2 (by decide) (hts (.fieldLink RX6 19 "NetHouse$Past" "size" "I") (by decide +kernel)) (fun _ h9 => h9) rfl (by decide +kernel) rfl rfl (Nat.le_of_ble_eq_true rfl) dX6_note_65 (fun H locs hP hD hS => ?_)
    have hP : va_P (dC, dI) vwCl (wld_X6_note cI cJ cZ h_p0 h_p1 h_p2 ad_p0 ad_p1 ad_p2 x4 x3 p1_places p1_steps p1_coloured (upd p0_steps p0_end.toNatClampNeg a3) p0_things p2_things) H := hP
    have hD : va_D A (wld_X6_note cI cJ cZ h_p0 h_p1 h_p2 ad_p0 ad_p1 ad_p2 x4 x3 p1_places p1_steps p1_coloured (upd p0_steps p0_end.toNatClampNeg a3) p0_things p2_things) := hD
    exact x_vret (w1 := fun (u : (Int32) × (Int32) × (Nat → Int32) × (Nat → Int64)) => (wld_X6_note cI cJ cZ h_p0 h_p1 h_p2 ad_p0 ad_p1 ad_p2 (u.2.1) (u.1) p1_places p1_steps p1_coloured (u.2.2.1) (u.2.2.2) p2_things)) hx hb hr hlocks (x3, x4, (upd p0_steps p0_end.toNatClampNeg a3), p0_things) hw hP hD hS dX6_note_68
  · have hw := hw.2 c2
    refine lv_aload_n hx hb dX6_note_7 rfl (lv_at hl 2 rfl) ?_
    refine va_get (D := (dC, dI)) (ci := 3) (v := .ref (ad_p2 1)) (C := RX3) (T := TX3) (N := 2) hx hb hts iX3 hown hK hP 4 rfl rfl 1 (by decide) (hts (.fieldLink RX6 31 "NetHouse$Holding" "things" "[J") (by decide +kernel)) (fun _ h9 => h9) rfl dX6_note_8 ?_
    refine lv_iconst (v := 0) hx hb dX6_note_11 (by decide) ?_
    refine lv_aload_n hx hb dX6_note_12 rfl (lv_at hl 0 rfl) ?_
    refine va_get (D := (dC, dI)) (ci := 6) (v := .ref (ad_p0 1)) (C := RX6) (T := TX6) (N := 4) hx hb hts iX6 hown hK hP 0 rfl rfl 1 (by decide) (hts (.fieldLink RX6 15 "NetHouse$Past" "things" "[J") (by decide +kernel)) (fun _ h9 => h9) rfl dX6_note_13 ?_
    refine lv_aload_n hx hb dX6_note_16 rfl (lv_at hl 0 rfl) ?_
    refine va_get (D := (dC, dI)) (ci := 6) (v := .int p0_end) (C := RX6) (T := TX6) (N := 4) hx hb hts iX6 hown hK hP 0 rfl rfl 3 (by decide) (hts (.fieldLink RX6 23 "NetHouse$Past" "end" "I") (by decide +kernel)) (fun _ h9 => h9) rfl dX6_note_17 ?_
    refine lv_bipush (v := 16) hx hb dX6_note_20 (by decide) ?_
    refine lv_imul hx hb dX6_note_22 ?_
    refine lv_bipush (v := 16) hx hb dX6_note_23 (by decide) ?_
    have h9 := hw.1
    have hw := hw.2
    refine va_copyl hx hb (by rw [hml]; exact hl.1.symm) hown (hts (.methodLink RX6 34 arraycopyName) (by decide +kernel)) (hts (.native arraycopyName) (by decide +kernel)) (hts (.static arraycopyName) (by decide +kernel)) (hts (.initialized "java/lang/System") (by decide +kernel)) hK hP hD hS 5 2 1 1 rfl rfl rfl rfl rfl h9.1 h9.2.1 h9.2.2.1 h9.2.2.2.1 h9.2.2.2.2 (fun _ _ => rfl) (Nat.le_of_ble_eq_true rfl) (Nat.le_of_ble_eq_true rfl) dX6_note_25 (fun H locs hP hD hS => ?_)
    have hP : va_P (dC, dI) vwCl (wld_X6_note cI cJ cZ h_p0 h_p1 h_p2 ad_p0 ad_p1 ad_p2 p0_size p0_end p1_places p1_steps p1_coloured p0_steps (va_cpy p2_things p0_things (0 : Int32).toNatClampNeg (p0_end * (16 : Int32)).toNatClampNeg (16 : Int32).toNatClampNeg) p2_things) H := hP
    have hD : va_D A (wld_X6_note cI cJ cZ h_p0 h_p1 h_p2 ad_p0 ad_p1 ad_p2 p0_size p0_end p1_places p1_steps p1_coloured p0_steps (va_cpy p2_things p0_things (0 : Int32).toNatClampNeg (p0_end * (16 : Int32)).toNatClampNeg (16 : Int32).toNatClampNeg) p2_things) := hD
    refine lv_aload_n hx hb dX6_note_28 rfl (lv_at hl 0 rfl) ?_
    refine va_get (D := (dC, dI)) (ci := 6) (v := .ref (ad_p0 0)) (C := RX6) (T := TX6) (N := 4) hx hb hts iX6 hown hK hP 0 rfl rfl 0 (by decide) (hts (.fieldLink RX6 9 "NetHouse$Past" "steps" "[I") (by decide +kernel)) (fun _ h9 => h9) rfl dX6_note_29 ?_
    refine lv_aload_n hx hb dX6_note_32 rfl (lv_at hl 0 rfl) ?_
    refine va_get (D := (dC, dI)) (ci := 6) (v := .int p0_end) (C := RX6) (T := TX6) (N := 4) hx hb hts iX6 hown hK hP 0 rfl rfl 3 (by decide) (hts (.fieldLink RX6 23 "NetHouse$Past" "end" "I") (by decide +kernel)) (fun _ h9 => h9) rfl dX6_note_33 ?_
    refine lv_iload_n hx hb dX6_note_36 rfl (lv_at hl 3 rfl) ?_
    refine va_iast hx hb hK hP hD hS 1 0 rfl rfl hw.1 dX6_note_37 (fun H locs hP hD hS => ?_)
    have hw := hw.2
    have hP : va_P (dC, dI) vwCl (wld_X6_note cI cJ cZ h_p0 h_p1 h_p2 ad_p0 ad_p1 ad_p2 p0_size p0_end p1_places p1_steps p1_coloured (upd p0_steps p0_end.toNatClampNeg a3) (va_cpy p2_things p0_things (0 : Int32).toNatClampNeg (p0_end * (16 : Int32)).toNatClampNeg (16 : Int32).toNatClampNeg) p2_things) H := hP
    have hD : va_D A (wld_X6_note cI cJ cZ h_p0 h_p1 h_p2 ad_p0 ad_p1 ad_p2 p0_size p0_end p1_places p1_steps p1_coloured (upd p0_steps p0_end.toNatClampNeg a3) (va_cpy p2_things p0_things (0 : Int32).toNatClampNeg (p0_end * (16 : Int32)).toNatClampNeg (16 : Int32).toNatClampNeg) p2_things) := hD
    refine lv_aload_n hx hb dX6_note_38 rfl (lv_at hl 0 rfl) ?_
    refine lv_aload_n hx hb dX6_note_39 rfl (lv_at hl 0 rfl) ?_
    refine va_get (D := (dC, dI)) (ci := 6) (v := .int p0_end) (C := RX6) (T := TX6) (N := 4) hx hb hts iX6 hown hK hP 0 rfl rfl 3 (by decide) (hts (.fieldLink RX6 23 "NetHouse$Past" "end" "I") (by decide +kernel)) (fun _ h9 => h9) rfl dX6_note_40 ?_
    refine lv_iconst (v := 1) hx hb dX6_note_43 (by decide) ?_
    refine lv_iadd hx hb dX6_note_44 ?_
    refine lv_sipush (v := 256) hx hb dX6_note_45 (by decide) ?_
    refine lv_irem hx hb dX6_note_48 (by decide) ?_
    refine lv_topi (fun x5 ex5 => ?_)
    have hw := hw x5 ex5
    refine va_put (D := (dC, dI)) (ci := 6) (v := .int x5) (ty := .int) (C := RX6) (T := TX6) (N := 4) hx hb hts iX6 tyX6 tyX6_ok nmX6 hown hK hP hD hS 0 rfl rfl 3 (by decide) (hts (.fieldLink RX6 23 "NetHouse$Past" "end" "I") (by decide +kernel)) (fun _ h9 => h9) rfl (by decide +kernel) rfl rfl (Nat.le_of_ble_eq_true rfl) dX6_note_49 (fun H locs hP hD hS => ?_)
    have hP : va_P (dC, dI) vwCl (wld_X6_note cI cJ cZ h_p0 h_p1 h_p2 ad_p0 ad_p1 ad_p2 p0_size x5 p1_places p1_steps p1_coloured (upd p0_steps p0_end.toNatClampNeg a3) (va_cpy p2_things p0_things (0 : Int32).toNatClampNeg (p0_end * (16 : Int32)).toNatClampNeg (16 : Int32).toNatClampNeg) p2_things) H := hP
    have hD : va_D A (wld_X6_note cI cJ cZ h_p0 h_p1 h_p2 ad_p0 ad_p1 ad_p2 p0_size x5 p1_places p1_steps p1_coloured (upd p0_steps p0_end.toNatClampNeg a3) (va_cpy p2_things p0_things (0 : Int32).toNatClampNeg (p0_end * (16 : Int32)).toNatClampNeg (16 : Int32).toNatClampNeg) p2_things) := hD
    refine lv_aload_n hx hb dX6_note_52 rfl (lv_at hl 0 rfl) ?_
    refine lv_aload_n hx hb dX6_note_53 rfl (lv_at hl 0 rfl) ?_
    refine va_get (D := (dC, dI)) (ci := 6) (v := .int p0_size) (C := RX6) (T := TX6) (N := 4) hx hb hts iX6 hown hK hP 0 rfl rfl 2 (by decide) (hts (.fieldLink RX6 19 "NetHouse$Past" "size" "I") (by decide +kernel)) (fun _ h9 => h9) rfl dX6_note_54 ?_
    refine lv_iconst (v := 1) hx hb dX6_note_57 (by decide) ?_
    refine lv_iadd hx hb dX6_note_58 ?_
    refine lv_sipush (v := 256) hx hb dX6_note_59 (by decide) ?_
    refine va_mmin hx hb (by rw [hml]; exact hl.1.symm) hown (hts (.methodLink RX6 40 Lib.Math.min.name) (by decide +kernel)) (hts (.static Lib.Math.min.name) (by decide +kernel)) (hts (.initialized "java/lang/Math") (by decide +kernel)) (hts (.code Lib.Math.min.name Lib.Math.min.code 2 (some .int)) (by decide +kernel)) (Nat.le_of_ble_eq_true rfl) (Nat.le_of_ble_eq_true rfl) (Nat.zero_le _) (Nat.zero_le _) dX6_note_62 ?_
    refine lv_topi (fun x6 ex6 => ?_)
    have hw := hw x6 ex6
    refine va_put (D := (dC, dI)) (ci := 6) (v := .int x6) (ty := .int) (C := RX6) (T := TX6) (N := 4) hx hb hts iX6 tyX6 tyX6_ok nmX6 hown hK hP hD hS 0 rfl rfl 2 (by decide) (hts (.fieldLink RX6 19 "NetHouse$Past" "size" "I") (by decide +kernel)) (fun _ h9 => h9) rfl (by decide +kernel) rfl rfl (Nat.le_of_ble_eq_true rfl) dX6_note_65 (fun H locs hP hD hS => ?_)
    have hP : va_P (dC, dI) vwCl (wld_X6_note cI cJ cZ h_p0 h_p1 h_p2 ad_p0 ad_p1 ad_p2 x6 x5 p1_places p1_steps p1_coloured (upd p0_steps p0_end.toNatClampNeg a3) (va_cpy p2_things p0_things (0 : Int32).toNatClampNeg (p0_end * (16 : Int32)).toNatClampNeg (16 : Int32).toNatClampNeg) p2_things) H := hP
    have hD : va_D A (wld_X6_note cI cJ cZ h_p0 h_p1 h_p2 ad_p0 ad_p1 ad_p2 x6 x5 p1_places p1_steps p1_coloured (upd p0_steps p0_end.toNatClampNeg a3) (va_cpy p2_things p0_things (0 : Int32).toNatClampNeg (p0_end * (16 : Int32)).toNatClampNeg (16 : Int32).toNatClampNeg) p2_things) := hD
    exact x_vret (w1 := fun (u : (Int32) × (Int32) × (Nat → Int32) × (Nat → Int64)) => (wld_X6_note cI cJ cZ h_p0 h_p1 h_p2 ad_p0 ad_p1 ad_p2 (u.2.1) (u.1) p1_places p1_steps p1_coloured (u.2.2.1) (u.2.2.2) p2_things)) hx hb hr hlocks (x5, x6, (upd p0_steps p0_end.toNatClampNeg a3), (va_cpy p2_things p0_things (0 : Int32).toNatClampNeg (p0_end * (16 : Int32)).toNatClampNeg (16 : Int32).toNatClampNeg)) hw hP hD hS dX6_note_68
abbrev wld_X6_undo (cI cJ cZ : ClassId) (h_p0 : Nat) (h_p1 : Nat) (h_p2 : Nat) (ad_p0 : Nat → Nat) (ad_p1 : Nat → Nat) (ad_p2 : Nat → Nat) (p0_size : Int32) (p0_end : Int32) (p1_places : Int32) (p1_steps : Int32) (p1_coloured : Int32) (p0_steps : Nat → Int32) (p0_things : Nat → Int64) (p1_puts : Nat → Int32) (p1_takes : Nat → Int32) (p2_many : Nat → Int32) (p2_things : Nat → Int64) : va_W := [(h_p0, .inr (6, [.ref (ad_p0 0), .ref (ad_p0 1), .int p0_size, .int p0_end])), ((ad_p0 0), .inl (cI, 256, .inl p0_steps)), ((ad_p0 1), .inl (cJ, 4096, .inr (.inl p0_things))), (h_p1, .inr (5, [.ref (ad_p1 0), .ref (ad_p1 1), .ref (ad_p1 2), .ref (ad_p1 3), .ref (ad_p1 4), .ref (ad_p1 5), .ref (ad_p1 6), .ref (ad_p1 7), .ref (ad_p1 8), .ref (ad_p1 9), .ref (ad_p1 10), .int p1_places, .int p1_steps, .int p1_coloured])), ((ad_p1 3), .inl (cI, 256, .inl p1_puts)), ((ad_p1 2), .inl (cI, 256, .inl p1_takes)), (h_p2, .inr (3, [.ref (ad_p2 0), .ref (ad_p2 1)])), ((ad_p2 0), .inl (cI, 16, .inl p2_many)), ((ad_p2 1), .inl (cJ, 16, .inr (.inl p2_things)))]
abbrev q_X6_undo (dC : Nat → ClassId) (dI : Nat → Nat → Nat) (cI cJ cZ : ClassId) (h_p0 : Nat) (h_p1 : Nat) (h_p2 : Nat) (ad_p0 : Nat → Nat) (ad_p1 : Nat → Nat) (ad_p2 : Nat → Nat) (p0_size : Int32) (p0_end : Int32) (p1_places : Int32) (p1_steps : Int32) (p1_coloured : Int32) (p0_steps : Nat → Int32) (p0_things : Nat → Int64) (p1_puts : Nat → Int32) (p1_takes : Nat → Int32) (p2_many : Nat → Int32) (p2_things : Nat → Int64) (post : Int32 → (Int32) → (Int32) → (Nat → Int32) → (Nat → Int64) → Prop) (A : Nat → Prop) : Array Value → State → Outcome → State → Prop := va_Qi (fun r (u : (Int32) × (Int32) × (Nat → Int32) × (Nat → Int64)) => post r (u.1) (u.2.1) (u.2.2.1) (u.2.2.2)) (fun (u : (Int32) × (Int32) × (Nat → Int32) × (Nat → Int64)) t => xPost (dC, dI) A (wld_X6_undo cI cJ cZ h_p0 h_p1 h_p2 ad_p0 ad_p1 ad_p2 (u.2.1) (u.1) p1_places p1_steps p1_coloured p0_steps p0_things p1_puts p1_takes (u.2.2.1) (u.2.2.2)) t) A
def w_X6_undo_L41b (v3 : Int32) (p0_end : Int32) (p0_size : Int32) (p1_coloured : Int32) (p1_places : Int32) (p0_steps : Nat → Int32) (p0_things : Nat → Int64) (p1_puts : Nat → Int32) (p1_takes : Nat → Int32) (p2_things : Nat → Int64) (post : Int32 → (Int32) → (Int32) → (Nat → Int32) → (Nat → Int64) → Prop) (K : (Int32) → (Nat → Int32) → Prop) (rec : (Int32) → (Nat → Int32) → Prop) (v4 : Int32) (p2_many : Nat → Int32) : Prop :=
    (p1_places ≤ v4 →
      K v4 p2_many) ∧
    (¬ p1_places ≤ v4 →
      vp_in v4 16 ∧
      w_X5_change p1_puts p1_takes v3 v4 (fun r6 =>
      vp_in v4 16 ∧
      ∀ x7 : Int32, x7 = v4 + (1 : Int32) →
      rec x7 (upd p2_many v4.toNatClampNeg ((p2_many v4.toNatClampNeg) - r6))))
def w_X6_undo_L41 (v3 : Int32) (p0_end : Int32) (p0_size : Int32) (p1_coloured : Int32) (p1_places : Int32) (p0_steps : Nat → Int32) (p0_things : Nat → Int64) (p1_puts : Nat → Int32) (p1_takes : Nat → Int32) (p2_things : Nat → Int64) (post : Int32 → (Int32) → (Int32) → (Nat → Int32) → (Nat → Int64) → Prop) (K : (Int32) → (Nat → Int32) → Prop) : Nat → (Int32) → (Nat → Int32) → Prop
  | 0, _, _ => False
  | n + 1, v4, p2_many => w_X6_undo_L41b v3 p0_end p0_size p1_coloured p1_places p0_steps p0_things p1_puts p1_takes p2_things post K (w_X6_undo_L41 v3 p0_end p0_size p1_coloured p1_places p0_steps p0_things p1_puts p1_takes p2_things post K n) v4 p2_many
def w_X6_undo (p0_end : Int32) (p0_size : Int32) (p1_coloured : Int32) (p1_places : Int32) (p0_steps : Nat → Int32) (p0_things : Nat → Int64) (p1_puts : Nat → Int32) (p1_takes : Nat → Int32) (p2_many : Nat → Int32) (p2_things : Nat → Int64) (post : Int32 → (Int32) → (Int32) → (Nat → Int32) → (Nat → Int64) → Prop) : Prop :=
  ∀ x1 : Int32, x1 = (((p0_end + (256 : Int32)) - (1 : Int32)) - ((p0_end + (256 : Int32)) - (1 : Int32)) / (256 : Int32) * (256 : Int32)) →
  ∀ x2 : Int32, x2 = (p0_size - (1 : Int32)) →
  vp_in x1 256 ∧
  ∀ x3 : Int32, x3 = (p0_steps x1.toNatClampNeg) →
  ∃ n : Nat, w_X6_undo_L41 x3 x1 x2 p1_coloured p1_places p0_steps p0_things p1_puts p1_takes p2_things post (fun v9 s10 =>
      (p1_coloured ≤ 0 →
        (post x3 x1 x2 s10 p2_things)) ∧
      (¬ p1_coloured ≤ 0 →
        (¬ (x1 * (16 : Int32)) < 0 ∧ ¬ (0 : Int32) < 0 ∧ ¬ (16 : Int32) < 0 ∧ (x1 * (16 : Int32)).toNatClampNeg + (16 : Int32).toNatClampNeg ≤ 4096 ∧ (0 : Int32).toNatClampNeg + (16 : Int32).toNatClampNeg ≤ 16) ∧
        (post x3 x1 x2 s10 (va_cpy p0_things p2_things (x1 * (16 : Int32)).toNatClampNeg (0 : Int32).toNatClampNeg (16 : Int32).toNatClampNeg)))) n (0 : Int32) p2_many
set_option maxHeartbeats 4000000 in
set_option maxRecDepth 100000 in
theorem c_X6_undo_L41 {p : Program} {l : Launch} {e : Env} {s : State} {m : MethodId} {args : Array Value} {below : List Frame} {meth : Method} {c : Code} {dC : Nat → ClassId} {dI : Nat → Nat → Nat} {A : Nat → Prop} {cI cJ cZ : ClassId} {h_p0 : Nat} {h_p1 : Nat} {h_p2 : Nat} {ad_p0 : Nat → Nat} {ad_p1 : Nat → Nat} {ad_p2 : Nat → Nat} {p0_size : Int32} {p0_end : Int32} {p1_places : Int32} {p1_steps : Int32} {p1_coloured : Int32} {p0_steps : Nat → Int32} {p0_things : Nat → Int64} {p1_puts : Nat → Int32} {p1_takes : Nat → Int32} {p2_things : Nat → Int64} {v3 : Int32} {z_p2_many : Nat → Int32} {post : Int32 → (Int32) → (Int32) → (Nat → Int32) → (Nat → Int64) → Prop} {K : (Int32) → (Nat → Int32) → Prop} (E0 : xEnv p s m args meth c cX6_undo (some .int) 5 RX6 wsX6_undo (dC, dI) cI cJ cZ A) (hk : ∀ (v4 : Int32) (p2_many : Nat → Int32) (H : Heap) (locs : List Loc) (ls : Array Slot), K v4 p2_many → va_P (dC, dI) vwCl (wld_X6_undo cI cJ cZ h_p0 h_p1 h_p2 ad_p0 ad_p1 ad_p2 p0_size p0_end p1_places p1_steps p1_coloured p0_steps p0_things p1_puts p1_takes p2_many p2_things) H → va_D A (wld_X6_undo cI cJ cZ h_p0 h_p1 h_p2 ad_p0 ad_p1 ad_p2 p0_size p0_end p1_places p1_steps p1_coloured p0_steps p0_things p1_puts p1_takes p2_many p2_things) → va_S A s.heap H locs → lv_has ls 5 [(0, .ref h_p0), (1, .ref h_p1), (2, .ref h_p2), (3, .int v3)] → W p l e ({ frames := 2, cells := 0, slots := 0, locals := 43 }) s m args below meth c H locs 0 0 (MQ below (q_X6_undo dC dI cI cJ cZ h_p0 h_p1 h_p2 ad_p0 ad_p1 ad_p2 p0_size p0_end p1_places p1_steps p1_coloured p0_steps p0_things p1_puts p1_takes z_p2_many p2_things post A) args s 0 0 A) (F0 m 73 ls [])) : ∀ (n : Nat) (v4 : Int32) (p2_many : Nat → Int32), w_X6_undo_L41 v3 p0_end p0_size p1_coloured p1_places p0_steps p0_things p1_puts p1_takes p2_things post K n v4 p2_many → ∀ (H : Heap) (locs : List Loc) (ls : Array Slot), va_P (dC, dI) vwCl (wld_X6_undo cI cJ cZ h_p0 h_p1 h_p2 ad_p0 ad_p1 ad_p2 p0_size p0_end p1_places p1_steps p1_coloured p0_steps p0_things p1_puts p1_takes p2_many p2_things) H → va_D A (wld_X6_undo cI cJ cZ h_p0 h_p1 h_p2 ad_p0 ad_p1 ad_p2 p0_size p0_end p1_places p1_steps p1_coloured p0_steps p0_things p1_puts p1_takes p2_many p2_things) → va_S A s.heap H locs → lv_has ls 5 [(0, .ref h_p0), (1, .ref h_p1), (2, .ref h_p2), (3, .int v3), (4, .int v4)] → W p l e ({ frames := 2, cells := 0, slots := 0, locals := 43 }) s m args below meth c H locs 0 0 (MQ below (q_X6_undo dC dI cI cJ cZ h_p0 h_p1 h_p2 ad_p0 ad_p1 ad_p2 p0_size p0_end p1_places p1_steps p1_coloured p0_steps p0_things p1_puts p1_takes z_p2_many p2_things post A) args s 0 0 A) (F0 m 41 ls []) := by
  obtain ⟨hx, hb, hr, hml, hown, hts, hlocks, hK, hA, n1, n2⟩ := id E0
  have iX3 : ∀ w ∈ u_ws RX3 TX3 2, w ∈ wsX6_undo := fun w h => List.mem_cons_of_mem _ (List.mem_append_right _ h)
  have iX5 : ∀ w ∈ u_ws RX5 TX5 14, w ∈ wsX6_undo := fun w h => List.mem_cons_of_mem _ (List.mem_append_left _ (List.mem_append_right _ h))
  have iX6 : ∀ w ∈ u_ws RX6 TX6 4, w ∈ wsX6_undo := fun w h => List.mem_cons_of_mem _ (List.mem_append_left _ (List.mem_append_left _ (List.mem_append_right _ h)))
  intro n
  induction n with
  | zero => intro v4 p2_many hw; exact hw.elim
  | succ n ih =>
    intro v4 p2_many hw H locs ls hP hD hS hl
    have hw : w_X6_undo_L41b v3 p0_end p0_size p1_coloured p1_places p0_steps p0_things p1_puts p1_takes p2_things post K (w_X6_undo_L41 v3 p0_end p0_size p1_coloured p1_places p0_steps p0_things p1_puts p1_takes p2_things post K n) v4 p2_many := hw
    unfold w_X6_undo_L41b at hw
    refine lv_iload hx hb dX6_undo_41 (lv_at hl 4 rfl) ?_
    refine lv_aload_n hx hb dX6_undo_43 rfl (lv_at hl 1 rfl) ?_
    refine va_get (D := (dC, dI)) (ci := 5) (v := .int p1_places) (C := RX5) (T := TX5) (N := 14) hx hb hts iX5 hown hK hP 3 rfl rfl 11 (by decide) (hts (.fieldLink RX6 46 "NetHouse$Net" "places" "I") (by decide +kernel)) (fun _ h9 => h9) rfl dX6_undo_44 ?_
    refine lv_icmp_ge (tgt := 73) hx hb dX6_undo_47 (by decide) (fun c4 => ?_) (fun c5 => ?_)
    · have hw := hw.1 c4
      exact hk _ _ _ _ _ hw hP hD hS (lv_sub hl [0, 1, 2, 3] rfl)
    · have hw := hw.2 c5
      refine lv_aload_n hx hb dX6_undo_50 rfl (lv_at hl 2 rfl) ?_
      refine va_get (D := (dC, dI)) (ci := 3) (v := .ref (ad_p2 0)) (C := RX3) (T := TX3) (N := 2) hx hb hts iX3 hown hK hP 6 rfl rfl 0 (by decide) (hts (.fieldLink RX6 49 "NetHouse$Holding" "many" "[I") (by decide +kernel)) (fun _ h9 => h9) rfl dX6_undo_51 ?_
      refine lv_iload hx hb dX6_undo_54 (lv_at hl 4 rfl) ?_
      refine lv_dup2_11 hx hb dX6_undo_56 rfl rfl ?_
      refine va_iald hx hb hK hP 7 0 rfl rfl hw.1 dX6_undo_57 ?_
      have hw := hw.2
      refine lv_aload_n hx hb dX6_undo_58 rfl (lv_at hl 1 rfl) ?_
      refine lv_iload_n hx hb dX6_undo_59 rfl (lv_at hl 3 rfl) ?_
      refine lv_iload hx hb dX6_undo_60 (lv_at hl 4 rfl) ?_
      obtain ⟨hPc, hDc⟩ := x_sub (wc := (wld_X5_change cI cJ cZ h_p1 ad_p1 p1_places p1_steps p1_coloured p1_puts p1_takes)) hP hD [3, 4, 5] (n := 9) rfl rfl (by decide +kernel)
      refine x_calli (ws' := fun (u : Unit) => (wld_X6_undo cI cJ cZ h_p0 h_p1 h_p2 ad_p0 ad_p1 ad_p2 p0_size p0_end p1_places p1_steps p1_coloured p0_steps p0_things p1_puts p1_takes p2_many p2_things)) hP hD hS hA [3, 4, 5] [0, 1, 2, 6, 7, 8] [0, 1, 2, 6, 7, 8, 3, 4, 5] (n := 9) (k := 3) rfl (fun _ => rfl) rfl (by decide +kernel) (fun _ => rfl) (va_runV (As := [.int v3, .int v4]) (rest := [.int (p2_many v4.toNatClampNeg), .int v4, .ref (ad_p2 0)]) ⟨hx, hb, hml, hown, hts⟩ (c_X5_change (l := l) (dC := dC) (dI := dI) (cI := cI) (cJ := cJ) (cZ := cZ) (sz := H.size) (h_p0 := h_p1) (ad_p0 := ad_p1) (p0_places := p1_places) (p0_steps := p1_steps) (p0_coloured := p1_coloured) (p0_puts := p1_puts) (p0_takes := p1_takes) hw) (cwV 2 hts gX6_undo_X5_change rfl rfl rfl (by decide +kernel) ⟨Nat.le_of_ble_eq_true rfl, Nat.le_of_ble_eq_true rfl⟩) ⟨xPre_blind, va_recv hK hP (ci := 5) (q0 := 3) rfl rfl, xPre_at hK hPc hDc n1 n2⟩ rfl rfl hl.1 rfl (lv_room (Nat.le_of_ble_eq_true rfl)) dX6_undo_62 ⟨Nat.zero_le _, Nat.zero_le _⟩) (fun r6 u H locs hw hP hD hS => ?_)
      try dsimp only at hw
      have hP : va_P (dC, dI) vwCl (wld_X6_undo cI cJ cZ h_p0 h_p1 h_p2 ad_p0 ad_p1 ad_p2 p0_size p0_end p1_places p1_steps p1_coloured p0_steps p0_things p1_puts p1_takes p2_many p2_things) H := hP
      have hD : va_D A (wld_X6_undo cI cJ cZ h_p0 h_p1 h_p2 ad_p0 ad_p1 ad_p2 p0_size p0_end p1_places p1_steps p1_coloured p0_steps p0_things p1_puts p1_takes p2_many p2_things) := hD
      refine lv_isub hx hb dX6_undo_65 ?_
      refine va_iast hx hb hK hP hD hS 7 0 rfl rfl hw.1 dX6_undo_66 (fun H locs hP hD hS => ?_)
      have hw := hw.2
      have hP : va_P (dC, dI) vwCl (wld_X6_undo cI cJ cZ h_p0 h_p1 h_p2 ad_p0 ad_p1 ad_p2 p0_size p0_end p1_places p1_steps p1_coloured p0_steps p0_things p1_puts p1_takes (upd p2_many v4.toNatClampNeg ((p2_many v4.toNatClampNeg) - r6)) p2_things) H := hP
      have hD : va_D A (wld_X6_undo cI cJ cZ h_p0 h_p1 h_p2 ad_p0 ad_p1 ad_p2 p0_size p0_end p1_places p1_steps p1_coloured p0_steps p0_things p1_puts p1_takes (upd p2_many v4.toNatClampNeg ((p2_many v4.toNatClampNeg) - r6)) p2_things) := hD
      obtain ⟨x7, ex7⟩ : ∃ y : Int32, y = v4 + (1 : Int32) := ⟨_, rfl⟩
      have hw := hw x7 ex7
      refine lv_iinc (v := x7) (lv' := [(4, .int x7), (0, .ref h_p0), (1, .ref h_p1), (2, .ref h_p2), (3, .int v3)]) hx hb dX6_undo_67 hl (k := 4) rfl (by rw [ex7]; rfl) (by decide) rfl (fun ls hl => ?_)
      refine lv_goto (tgt := 41) hx hb dX6_undo_70 (by decide) ?_
      exact ih _ _ hw _ _ _ hP hD hS (lv_sub hl [1, 2, 3, 4, 0] rfl)
set_option maxHeartbeats 4000000 in
set_option maxRecDepth 100000 in
theorem c_X6_undo {l : Launch} {dC : Nat → ClassId} {dI : Nat → Nat → Nat} {sz : Nat} {cI cJ cZ : ClassId} {h_p0 : Nat} {h_p1 : Nat} {h_p2 : Nat} {ad_p0 : Nat → Nat} {ad_p1 : Nat → Nat} {ad_p2 : Nat → Nat} {p0_size : Int32} {p0_end : Int32} {p1_places : Int32} {p1_steps : Int32} {p1_coloured : Int32} {p0_steps : Nat → Int32} {p0_things : Nat → Int64} {p1_puts : Nat → Int32} {p1_takes : Nat → Int32} {p2_many : Nat → Int32} {p2_things : Nat → Int64}  {post : Int32 → (Int32) → (Int32) → (Nat → Int32) → (Nat → Int64) → Prop} (hw : w_X6_undo p0_end p0_size p1_coloured p1_places p0_steps p0_things p1_puts p1_takes p2_many p2_things post) : Met l yX6_undo wsX6_undo ({ frames := 2, cells := 0, slots := 0, locals := 43 }) (va_Pc [.ref h_p0, .ref h_p1, .ref h_p2] (xPre (dC, dI) cI cJ cZ (wld_X6_undo cI cJ cZ h_p0 h_p1 h_p2 ad_p0 ad_p1 ad_p2 p0_size p0_end p1_places p1_steps p1_coloured p0_steps p0_things p1_puts p1_takes p2_many p2_things) sz)) (q_X6_undo dC dI cI cJ cZ h_p0 h_p1 h_p2 ad_p0 ad_p1 ad_p2 p0_size p0_end p1_places p1_steps p1_coloured p0_steps p0_things p1_puts p1_takes p2_many p2_things post (va_A (wld_X6_undo cI cJ cZ h_p0 h_p1 h_p2 ad_p0 ad_p1 ad_p2 p0_size p0_end p1_places p1_steps p1_coloured p0_steps p0_things p1_puts p1_takes p2_many p2_things) sz)) 0 0 (va_A (wld_X6_undo cI cJ cZ h_p0 h_p1 h_p2 ad_p0 ad_p1 ad_p2 p0_size p0_end p1_places p1_steps p1_coloured p0_steps p0_things p1_puts p1_takes p2_many p2_things) sz) := by
  refine x_met (cc := cX6_undo) (maxL := 5) (ret := (some .int)) (own := RX6) (Qc := fun A => (q_X6_undo dC dI cI cJ cZ h_p0 h_p1 h_p2 ad_p0 ad_p1 ad_p2 p0_size p0_end p1_places p1_steps p1_coloured p0_steps p0_things p1_puts p1_takes p2_many p2_things post A)) (by decide) rfl rfl (Nat.le_of_ble_eq_true rfl) ?_
  intro p e s m args below meth c A ls E0 hP hD hS hl
  obtain ⟨hx, hb, hr, hml, hown, hts, hlocks, hK, hA, n1, n2⟩ := id E0
  have iX3 : ∀ w ∈ u_ws RX3 TX3 2, w ∈ wsX6_undo := fun w h => List.mem_cons_of_mem _ (List.mem_append_right _ h)
  have iX5 : ∀ w ∈ u_ws RX5 TX5 14, w ∈ wsX6_undo := fun w h => List.mem_cons_of_mem _ (List.mem_append_left _ (List.mem_append_right _ h))
  have iX6 : ∀ w ∈ u_ws RX6 TX6 4, w ∈ wsX6_undo := fun w h => List.mem_cons_of_mem _ (List.mem_append_left _ (List.mem_append_left _ (List.mem_append_right _ h)))
  have hS0 := hS
  have hl : lv_has ls 5 [(0, .ref h_p0), (1, .ref h_p1), (2, .ref h_p2)] := hl
  unfold w_X6_undo at hw
  obtain ⟨H, hH⟩ : ∃ H, H = s.heap := ⟨_, rfl⟩
  have hS : va_S A s.heap H [] := by rw [hH]; exact hS
  have hP : va_P (dC, dI) vwCl (wld_X6_undo cI cJ cZ h_p0 h_p1 h_p2 ad_p0 ad_p1 ad_p2 p0_size p0_end p1_places p1_steps p1_coloured p0_steps p0_things p1_puts p1_takes p2_many p2_things) H := by rw [hH]; exact hP
  suffices hG : W p l e ({ frames := 2, cells := 0, slots := 0, locals := 43 }) s m args below meth c H [] 0 0 (MQ below (q_X6_undo dC dI cI cJ cZ h_p0 h_p1 h_p2 ad_p0 ad_p1 ad_p2 p0_size p0_end p1_places p1_steps p1_coloured p0_steps p0_things p1_puts p1_takes p2_many p2_things post A) args s 0 0 A) (F0 m 0 ls []) by rw [hH] at hG; exact hG
  clear hH
  refine lv_aload_n hx hb dX6_undo_0 rfl (lv_at hl 0 rfl) ?_
  refine lv_aload_n hx hb dX6_undo_1 rfl (lv_at hl 0 rfl) ?_
  refine va_get (D := (dC, dI)) (ci := 6) (v := .int p0_end) (C := RX6) (T := TX6) (N := 4) hx hb hts iX6 hown hK hP 0 rfl rfl 3 (by decide) (hts (.fieldLink RX6 23 "NetHouse$Past" "end" "I") (by decide +kernel)) (fun _ h9 => h9) rfl dX6_undo_2 ?_
  refine lv_sipush (v := 256) hx hb dX6_undo_5 (by decide) ?_
  refine lv_iadd hx hb dX6_undo_8 ?_
  refine lv_iconst (v := 1) hx hb dX6_undo_9 (by decide) ?_
  refine lv_isub hx hb dX6_undo_10 ?_
  refine lv_sipush (v := 256) hx hb dX6_undo_11 (by decide) ?_
  refine lv_irem hx hb dX6_undo_14 (by decide) ?_
  refine lv_topi (fun x1 ex1 => ?_)
  have hw := hw x1 ex1
  refine va_put (D := (dC, dI)) (ci := 6) (v := .int x1) (ty := .int) (C := RX6) (T := TX6) (N := 4) hx hb hts iX6 tyX6 tyX6_ok nmX6 hown hK hP hD hS 0 rfl rfl 3 (by decide) (hts (.fieldLink RX6 23 "NetHouse$Past" "end" "I") (by decide +kernel)) (fun _ h9 => h9) rfl (by decide +kernel) rfl rfl (Nat.le_of_ble_eq_true rfl) dX6_undo_15 (fun H locs hP hD hS => ?_)
  have hP : va_P (dC, dI) vwCl (wld_X6_undo cI cJ cZ h_p0 h_p1 h_p2 ad_p0 ad_p1 ad_p2 p0_size x1 p1_places p1_steps p1_coloured p0_steps p0_things p1_puts p1_takes p2_many p2_things) H := hP
  have hD : va_D A (wld_X6_undo cI cJ cZ h_p0 h_p1 h_p2 ad_p0 ad_p1 ad_p2 p0_size x1 p1_places p1_steps p1_coloured p0_steps p0_things p1_puts p1_takes p2_many p2_things) := hD
  refine lv_aload_n hx hb dX6_undo_18 rfl (lv_at hl 0 rfl) ?_
  refine lv_dup hx hb dX6_undo_19 rfl ?_
  refine va_get (D := (dC, dI)) (ci := 6) (v := .int p0_size) (C := RX6) (T := TX6) (N := 4) hx hb hts iX6 hown hK hP 0 rfl rfl 2 (by decide) (hts (.fieldLink RX6 19 "NetHouse$Past" "size" "I") (by decide +kernel)) (fun _ h9 => h9) rfl dX6_undo_20 ?_
  refine lv_iconst (v := 1) hx hb dX6_undo_23 (by decide) ?_
  refine lv_isub hx hb dX6_undo_24 ?_
  refine lv_topi (fun x2 ex2 => ?_)
  have hw := hw x2 ex2
  refine va_put (D := (dC, dI)) (ci := 6) (v := .int x2) (ty := .int) (C := RX6) (T := TX6) (N := 4) hx hb hts iX6 tyX6 tyX6_ok nmX6 hown hK hP hD hS 0 rfl rfl 2 (by decide) (hts (.fieldLink RX6 19 "NetHouse$Past" "size" "I") (by decide +kernel)) (fun _ h9 => h9) rfl (by decide +kernel) rfl rfl (Nat.le_of_ble_eq_true rfl) dX6_undo_25 (fun H locs hP hD hS => ?_)
  have hP : va_P (dC, dI) vwCl (wld_X6_undo cI cJ cZ h_p0 h_p1 h_p2 ad_p0 ad_p1 ad_p2 x2 x1 p1_places p1_steps p1_coloured p0_steps p0_things p1_puts p1_takes p2_many p2_things) H := hP
  have hD : va_D A (wld_X6_undo cI cJ cZ h_p0 h_p1 h_p2 ad_p0 ad_p1 ad_p2 x2 x1 p1_places p1_steps p1_coloured p0_steps p0_things p1_puts p1_takes p2_many p2_things) := hD
  refine lv_aload_n hx hb dX6_undo_28 rfl (lv_at hl 0 rfl) ?_
  refine va_get (D := (dC, dI)) (ci := 6) (v := .ref (ad_p0 0)) (C := RX6) (T := TX6) (N := 4) hx hb hts iX6 hown hK hP 0 rfl rfl 0 (by decide) (hts (.fieldLink RX6 9 "NetHouse$Past" "steps" "[I") (by decide +kernel)) (fun _ h9 => h9) rfl dX6_undo_29 ?_
  refine lv_aload_n hx hb dX6_undo_32 rfl (lv_at hl 0 rfl) ?_
  refine va_get (D := (dC, dI)) (ci := 6) (v := .int x1) (C := RX6) (T := TX6) (N := 4) hx hb hts iX6 hown hK hP 0 rfl rfl 3 (by decide) (hts (.fieldLink RX6 23 "NetHouse$Past" "end" "I") (by decide +kernel)) (fun _ h9 => h9) rfl dX6_undo_33 ?_
  refine va_iald hx hb hK hP 1 0 rfl rfl hw.1 dX6_undo_36 ?_
  have hw := hw.2
  refine lv_topi (fun x3 ex3 => ?_)
  have hw := hw x3 ex3
  refine lv_istore_n (lv' := [(3, .int x3), (0, .ref h_p0), (1, .ref h_p1), (2, .ref h_p2)]) hx hb dX6_undo_37 rfl hl (by decide) rfl (fun ls hl => ?_)
  refine lv_iconst (v := 0) hx hb dX6_undo_38 (by decide) ?_
  refine lv_istore (lv' := [(4, .int (0 : Int32)), (3, .int x3), (0, .ref h_p0), (1, .ref h_p1), (2, .ref h_p2)]) hx hb dX6_undo_39 hl (by decide) rfl (fun ls hl => ?_)
  obtain ⟨n8, hw⟩ := hw
  refine c_X6_undo_L41 (l := l) (z_p2_many := p2_many) E0 ?_ n8 _ _ hw _ _ _ hP hD hS (lv_sub hl [2, 3, 4, 1, 0] rfl)
  · intro v9 s10 H locs ls hw hP hD hS hl
    have hP : va_P (dC, dI) vwCl (wld_X6_undo cI cJ cZ h_p0 h_p1 h_p2 ad_p0 ad_p1 ad_p2 x2 x1 p1_places p1_steps p1_coloured p0_steps p0_things p1_puts p1_takes s10 p2_things) H := hP
    have hD : va_D A (wld_X6_undo cI cJ cZ h_p0 h_p1 h_p2 ad_p0 ad_p1 ad_p2 x2 x1 p1_places p1_steps p1_coloured p0_steps p0_things p1_puts p1_takes s10 p2_things) := hD
    refine lv_aload_n hx hb dX6_undo_73 rfl (lv_at hl 1 rfl) ?_
    refine va_get (D := (dC, dI)) (ci := 5) (v := .int p1_coloured) (C := RX5) (T := TX5) (N := 14) hx hb hts iX5 hown hK hP 3 rfl rfl 13 (by decide) (hts (.fieldLink RX6 26 "NetHouse$Net" "coloured" "I") (by decide +kernel)) (fun _ h9 => h9) rfl dX6_undo_74 ?_
    refine lv_if_le (tgt := 101) hx hb dX6_undo_77 (by decide) (fun c11 => ?_) (fun c12 => ?_)
    · have hw := hw.1 c11
      refine lv_iload_n hx hb dX6_undo_101 rfl (lv_at hl 3 rfl) ?_
      exact x_iret (w1 := fun (u : (Int32) × (Int32) × (Nat → Int32) × (Nat → Int64)) => (wld_X6_undo cI cJ cZ h_p0 h_p1 h_p2 ad_p0 ad_p1 ad_p2 (u.2.1) (u.1) p1_places p1_steps p1_coloured p0_steps p0_things p1_puts p1_takes (u.2.2.1) (u.2.2.2))) hx hb hr hlocks (x1, x2, s10, p2_things) hw hP hD hS dX6_undo_102
    · have hw := hw.2 c12
      refine lv_aload_n hx hb dX6_undo_80 rfl (lv_at hl 0 rfl) ?_
      refine va_get (D := (dC, dI)) (ci := 6) (v := .ref (ad_p0 1)) (C := RX6) (T := TX6) (N := 4) hx hb hts iX6 hown hK hP 0 rfl rfl 1 (by decide) (hts (.fieldLink RX6 15 "NetHouse$Past" "things" "[J") (by decide +kernel)) (fun _ h9 => h9) rfl dX6_undo_81 ?_
      refine lv_aload_n hx hb dX6_undo_84 rfl (lv_at hl 0 rfl) ?_
      refine va_get (D := (dC, dI)) (ci := 6) (v := .int x1) (C := RX6) (T := TX6) (N := 4) hx hb hts iX6 hown hK hP 0 rfl rfl 3 (by decide) (hts (.fieldLink RX6 23 "NetHouse$Past" "end" "I") (by decide +kernel)) (fun _ h9 => h9) rfl dX6_undo_85 ?_
      refine lv_bipush (v := 16) hx hb dX6_undo_88 (by decide) ?_
      refine lv_imul hx hb dX6_undo_90 ?_
      refine lv_aload_n hx hb dX6_undo_91 rfl (lv_at hl 2 rfl) ?_
      refine va_get (D := (dC, dI)) (ci := 3) (v := .ref (ad_p2 1)) (C := RX3) (T := TX3) (N := 2) hx hb hts iX3 hown hK hP 6 rfl rfl 1 (by decide) (hts (.fieldLink RX6 31 "NetHouse$Holding" "things" "[J") (by decide +kernel)) (fun _ h9 => h9) rfl dX6_undo_92 ?_
      refine lv_iconst (v := 0) hx hb dX6_undo_95 (by decide) ?_
      refine lv_bipush (v := 16) hx hb dX6_undo_96 (by decide) ?_
      have h9 := hw.1
      have hw := hw.2
      refine va_copyl hx hb (by rw [hml]; exact hl.1.symm) hown (hts (.methodLink RX6 34 arraycopyName) (by decide +kernel)) (hts (.native arraycopyName) (by decide +kernel)) (hts (.static arraycopyName) (by decide +kernel)) (hts (.initialized "java/lang/System") (by decide +kernel)) hK hP hD hS 2 8 1 1 rfl rfl rfl rfl rfl h9.1 h9.2.1 h9.2.2.1 h9.2.2.2.1 h9.2.2.2.2 (fun _ _ => rfl) (Nat.le_of_ble_eq_true rfl) (Nat.le_of_ble_eq_true rfl) dX6_undo_98 (fun H locs hP hD hS => ?_)
      have hP : va_P (dC, dI) vwCl (wld_X6_undo cI cJ cZ h_p0 h_p1 h_p2 ad_p0 ad_p1 ad_p2 x2 x1 p1_places p1_steps p1_coloured p0_steps p0_things p1_puts p1_takes s10 (va_cpy p0_things p2_things (x1 * (16 : Int32)).toNatClampNeg (0 : Int32).toNatClampNeg (16 : Int32).toNatClampNeg)) H := hP
      have hD : va_D A (wld_X6_undo cI cJ cZ h_p0 h_p1 h_p2 ad_p0 ad_p1 ad_p2 x2 x1 p1_places p1_steps p1_coloured p0_steps p0_things p1_puts p1_takes s10 (va_cpy p0_things p2_things (x1 * (16 : Int32)).toNatClampNeg (0 : Int32).toNatClampNeg (16 : Int32).toNatClampNeg)) := hD
      refine lv_iload_n hx hb dX6_undo_101 rfl (lv_at hl 3 rfl) ?_
      exact x_iret (w1 := fun (u : (Int32) × (Int32) × (Nat → Int32) × (Nat → Int64)) => (wld_X6_undo cI cJ cZ h_p0 h_p1 h_p2 ad_p0 ad_p1 ad_p2 (u.2.1) (u.1) p1_places p1_steps p1_coloured p0_steps p0_things p1_puts p1_takes (u.2.2.1) (u.2.2.2))) hx hb hr hlocks (x1, x2, s10, (va_cpy p0_things p2_things (x1 * (16 : Int32)).toNatClampNeg (0 : Int32).toNatClampNeg (16 : Int32).toNatClampNeg)) hw hP hD hS dX6_undo_102
abbrev wld_X9_leastBehind (cI cJ cZ : ClassId) (h_p0 : Nat) (ad_p0 : Nat → Nat) (p0_places : Int32) (p0_steps : Int32) (p0_coloured : Int32) (p0_putsInto : Nat → Int32) (p0_takesFrom : Nat → Int32) : va_W := [(h_p0, .inr (5, [.ref (ad_p0 0), .ref (ad_p0 1), .ref (ad_p0 2), .ref (ad_p0 3), .ref (ad_p0 4), .ref (ad_p0 5), .ref (ad_p0 6), .ref (ad_p0 7), .ref (ad_p0 8), .ref (ad_p0 9), .ref (ad_p0 10), .int p0_places, .int p0_steps, .int p0_coloured])), ((ad_p0 9), .inl (cI, 16, .inl p0_putsInto)), ((ad_p0 8), .inl (cI, 16, .inl p0_takesFrom))]
abbrev q_X9_leastBehind (dC : Nat → ClassId) (dI : Nat → Nat → Nat) (cI cJ cZ : ClassId) (h_p0 : Nat) (ad_p0 : Nat → Nat) (p0_places : Int32) (p0_steps : Int32) (p0_coloured : Int32) (p0_putsInto : Nat → Int32) (p0_takesFrom : Nat → Int32) (post : Int32 → Prop) (A : Nat → Prop) : Array Value → State → Outcome → State → Prop := va_Qi (fun r (u : Unit) => post r ) (fun (u : Unit) t => xPost (dC, dI) A (wld_X9_leastBehind cI cJ cZ h_p0 ad_p0 p0_places p0_steps p0_coloured p0_putsInto p0_takesFrom) t) A
def w_X9_leastBehindb (p0_places : Int32) (p0_steps : Int32) (p0_putsInto : Nat → Int32) (p0_takesFrom : Nat → Int32) (rec : Int32 → Int32 → Int32 → Int32 → (Int32 → Prop) → Prop) (a1 : Int32) (a2 : Int32) (a3 : Int32) (a4 : Int32) (post : Int32 → Prop) : Prop :=
  (a4 < 0 →
    (post (0 : Int32))) ∧
  (¬ a4 < 0 →
    (a4 ≤ (16 : Int32) →
      ∀ x5 : Int32, x5 = (a3 ||| (((1 : Int32) <<< (a4 &&& 31)) - (1 : Int32))) →
      (a2 < x5 →
        w_X5_greatestWithin p0_places p0_steps p0_putsInto p0_takesFrom x5 a1 (fun r8 =>
        (r8 = 0 →
          (post (0 : Int32))) ∧
        (¬ r8 = 0 →
          ((a3 &&& (r8 ^^^ (-1 : Int32))) = 0 →
            w_X5_greatestWithin p0_places p0_steps p0_putsInto p0_takesFrom a3 a1 (fun r13 =>
            (r13 = 0 →
              rec a1 a2 a3 (a4 - (1 : Int32)) (fun r16 =>
              (¬ r16 = 0 →
                (post r16)) ∧
              (r16 = 0 →
                (¬ a4 = 0 →
                  rec a1 a2 (a3 ||| ((1 : Int32) <<< ((a4 - (1 : Int32)) &&& 31))) (a4 - (1 : Int32)) (fun r21 =>
                  (post r21))) ∧
                (a4 = 0 →
                  (post r16))))) ∧
            (¬ r13 = 0 →
              (a3 ≤ a2 →
                (post (0 : Int32))) ∧
              (¬ a3 ≤ a2 →
                w_X5_isLeast p0_places p0_steps p0_putsInto p0_takesFrom a3 a1 (fun r24 =>
                (r24 = 0 →
                  (post (0 : Int32))) ∧
                (¬ r24 = 0 →
                  (post a3))))))) ∧
          (¬ (a3 &&& (r8 ^^^ (-1 : Int32))) = 0 →
            (post (0 : Int32)))))) ∧
      (¬ a2 < x5 →
        (post (0 : Int32)))) ∧
    (¬ a4 ≤ (16 : Int32) →
      (post (0 : Int32))))
def w_X9_leastBehind (p0_places : Int32) (p0_steps : Int32) (p0_putsInto : Nat → Int32) (p0_takesFrom : Nat → Int32) : Nat → Int32 → Int32 → Int32 → Int32 → (Int32 → Prop) → Prop
  | 0, _, _, _, _, _ => False
  | d + 1, a1, a2, a3, a4, post => w_X9_leastBehindb p0_places p0_steps p0_putsInto p0_takesFrom (w_X9_leastBehind p0_places p0_steps p0_putsInto p0_takesFrom d) a1 a2 a3 a4 post
set_option maxHeartbeats 4000000 in
set_option maxRecDepth 100000 in
theorem c_X9_leastBehind_d {l : Launch} {dC : Nat → ClassId} {dI : Nat → Nat → Nat} {cI cJ cZ : ClassId} {h_p0 : Nat} {ad_p0 : Nat → Nat} {p0_places : Int32} {p0_steps : Int32} {p0_coloured : Int32} {p0_putsInto : Nat → Int32} {p0_takesFrom : Nat → Int32} : ∀ (d : Nat) {sz : Nat} {a1 : Int32} {a2 : Int32} {a3 : Int32} {a4 : Int32} (post : Int32 → Prop), w_X9_leastBehind p0_places p0_steps p0_putsInto p0_takesFrom d a1 a2 a3 a4 post → Met l yX9_leastBehind wsX9_leastBehind ({ frames := 3 + d, cells := 0, slots := 0, locals := 72 + 27 * d }) (va_Pc [.ref h_p0, .int a1, .int a2, .int a3, .int a4] (xPre (dC, dI) cI cJ cZ (wld_X9_leastBehind cI cJ cZ h_p0 ad_p0 p0_places p0_steps p0_coloured p0_putsInto p0_takesFrom) sz)) (q_X9_leastBehind dC dI cI cJ cZ h_p0 ad_p0 p0_places p0_steps p0_coloured p0_putsInto p0_takesFrom post (va_A (wld_X9_leastBehind cI cJ cZ h_p0 ad_p0 p0_places p0_steps p0_coloured p0_putsInto p0_takesFrom) sz)) 0 0 (va_A (wld_X9_leastBehind cI cJ cZ h_p0 ad_p0 p0_places p0_steps p0_coloured p0_putsInto p0_takesFrom) sz) := by
  intro d
  induction d with
  | zero => intro sz a1 a2 a3 a4 post hw; exact hw.elim
  | succ d ih =>
  intro sz a1 a2 a3 a4 post hw
  have hw : w_X9_leastBehindb p0_places p0_steps p0_putsInto p0_takesFrom (w_X9_leastBehind p0_places p0_steps p0_putsInto p0_takesFrom d) a1 a2 a3 a4 post := hw
  refine x_met (cc := cX9_leastBehind) (maxL := 8) (ret := (some .int)) (own := RX9) (Qc := fun A => (q_X9_leastBehind dC dI cI cJ cZ h_p0 ad_p0 p0_places p0_steps p0_coloured p0_putsInto p0_takesFrom post A)) (by decide) rfl rfl (Nat.le_of_ble_eq_true rfl) ?_
  intro p e s m args below meth c A ls E0 hP hD hS hl
  obtain ⟨hx, hb, hr, hml, hown, hts, hlocks, hK, hA, n1, n2⟩ := id E0
  have iX5 : ∀ w ∈ u_ws RX5 TX5 14, w ∈ wsX9_leastBehind := fun w h => List.mem_cons_of_mem _ (List.mem_append_right _ h)
  have hl : lv_has ls 8 [(0, .ref h_p0), (1, .int a1), (2, .int a2), (3, .int a3), (4, .int a4)] := hl
  unfold w_X9_leastBehindb at hw
  obtain ⟨H, hH⟩ : ∃ H, H = s.heap := ⟨_, rfl⟩
  have hS : va_S A s.heap H [] := by rw [hH]; exact hS
  have hP : va_P (dC, dI) vwCl (wld_X9_leastBehind cI cJ cZ h_p0 ad_p0 p0_places p0_steps p0_coloured p0_putsInto p0_takesFrom) H := by rw [hH]; exact hP
  suffices hG : W p l e ({ frames := 3 + (d + 1), cells := 0, slots := 0, locals := 72 + 27 * (d + 1) }) s m args below meth c H [] 0 0 (MQ below (q_X9_leastBehind dC dI cI cJ cZ h_p0 ad_p0 p0_places p0_steps p0_coloured p0_putsInto p0_takesFrom post A) args s 0 0 A) (F0 m 0 ls []) by rw [hH] at hG; exact hG
  clear hH
  refine lv_iload hx hb dX9_leastBehind_0 (lv_at hl 4 rfl) ?_
  refine lv_if_lt (tgt := 12) hx hb dX9_leastBehind_2 (by decide) (fun c1 => ?_) (fun c2 => ?_)
  · have hw := hw.1 c1
    refine lv_iconst (v := 0) hx hb dX9_leastBehind_12 (by decide) ?_
    exact x_iret (w1 := fun (u : Unit) => (wld_X9_leastBehind cI cJ cZ h_p0 ad_p0 p0_places p0_steps p0_coloured p0_putsInto p0_takesFrom)) hx hb hr hlocks () hw hP hD hS dX9_leastBehind_13
  · have hw := hw.2 c2
    refine lv_iload hx hb dX9_leastBehind_5 (lv_at hl 4 rfl) ?_
    refine lv_bipush (v := 16) hx hb dX9_leastBehind_7 (by decide) ?_
    refine lv_icmp_le (tgt := 14) hx hb dX9_leastBehind_9 (by decide) (fun c3 => ?_) (fun c4 => ?_)
    · have hw := hw.1 c3
      refine lv_iload_n hx hb dX9_leastBehind_14 rfl (lv_at hl 3 rfl) ?_
      refine lv_iconst (v := 1) hx hb dX9_leastBehind_15 (by decide) ?_
      refine lv_iload hx hb dX9_leastBehind_16 (lv_at hl 4 rfl) ?_
      refine lv_ishl hx hb dX9_leastBehind_18 ?_
      refine lv_iconst (v := 1) hx hb dX9_leastBehind_19 (by decide) ?_
      refine lv_isub hx hb dX9_leastBehind_20 ?_
      refine lv_ior hx hb dX9_leastBehind_21 ?_
      refine lv_topi (fun x5 ex5 => ?_)
      have hw := hw x5 ex5
      refine lv_istore (lv' := [(5, .int x5), (0, .ref h_p0), (1, .int a1), (2, .int a2), (3, .int a3), (4, .int a4)]) hx hb dX9_leastBehind_22 hl (by decide) rfl (fun ls hl => ?_)
      refine lv_iload hx hb dX9_leastBehind_24 (lv_at hl 0 rfl) ?_
      refine lv_iload_n hx hb dX9_leastBehind_26 rfl (lv_at hl 3 rfl) ?_
      refine lv_icmp_gt (tgt := 32) hx hb dX9_leastBehind_27 (by decide) (fun c6 => ?_) (fun c7 => ?_)
      · have hw := hw.1 c6
        refine lv_aload_n hx hb dX9_leastBehind_32 rfl (lv_at hl 1 rfl) ?_
        refine lv_iload hx hb dX9_leastBehind_33 (lv_at hl 0 rfl) ?_
        refine lv_iload_n hx hb dX9_leastBehind_35 rfl (lv_at hl 2 rfl) ?_
        obtain ⟨hPc, hDc⟩ := x_sub (wc := (wld_X5_greatestWithin cI cJ cZ h_p0 ad_p0 p0_places p0_steps p0_coloured p0_putsInto p0_takesFrom)) hP hD [0, 1, 2] (n := 3) rfl rfl (by decide +kernel)
        refine x_calli (ws' := fun (u : Unit) => (wld_X9_leastBehind cI cJ cZ h_p0 ad_p0 p0_places p0_steps p0_coloured p0_putsInto p0_takesFrom)) hP hD hS hA [0, 1, 2] [] [0, 1, 2] (n := 3) (k := 3) rfl (fun _ => rfl) rfl (by decide +kernel) (fun _ => rfl) (va_runV (As := [.int x5, .int a1]) (rest := []) ⟨hx, hb, hml, hown, hts⟩ (c_X5_greatestWithin (l := l) (dC := dC) (dI := dI) (cI := cI) (cJ := cJ) (cZ := cZ) (sz := H.size) (h_p0 := h_p0) (ad_p0 := ad_p0) (p0_places := p0_places) (p0_steps := p0_steps) (p0_coloured := p0_coloured) (p0_putsInto := p0_putsInto) (p0_takesFrom := p0_takesFrom) hw) (cwV 2 hts gX9_leastBehind_X5_greatestWithin rfl rfl rfl (by decide +kernel) ⟨by show _ ≤ _; simp only []; omega, by show _ ≤ _; simp only []; omega⟩) ⟨xPre_blind, va_recv hK hP (ci := 5) (q0 := 0) rfl rfl, xPre_at hK hPc hDc n1 n2⟩ rfl rfl hl.1 rfl (lv_room (Nat.le_of_ble_eq_true rfl)) dX9_leastBehind_36 ⟨Nat.zero_le _, Nat.zero_le _⟩) (fun r8 u H locs hw hP hD hS => ?_)
        try dsimp only at hw
        have hP : va_P (dC, dI) vwCl (wld_X9_leastBehind cI cJ cZ h_p0 ad_p0 p0_places p0_steps p0_coloured p0_putsInto p0_takesFrom) H := hP
        have hD : va_D A (wld_X9_leastBehind cI cJ cZ h_p0 ad_p0 p0_places p0_steps p0_coloured p0_putsInto p0_takesFrom) := hD
        refine lv_istore (lv' := [(6, .int r8), (5, .int x5), (0, .ref h_p0), (1, .int a1), (2, .int a2), (3, .int a3), (4, .int a4)]) hx hb dX9_leastBehind_39 hl (by decide) rfl (fun ls hl => ?_)
        refine lv_iload hx hb dX9_leastBehind_41 (lv_at hl 0 rfl) ?_
        refine lv_if_eq (tgt := 55) hx hb dX9_leastBehind_43 (by decide) (fun c9 => ?_) (fun c10 => ?_)
        · have hw := hw.1 c9
          refine lv_iconst (v := 0) hx hb dX9_leastBehind_55 (by decide) ?_
          exact x_iret (w1 := fun (u : Unit) => (wld_X9_leastBehind cI cJ cZ h_p0 ad_p0 p0_places p0_steps p0_coloured p0_putsInto p0_takesFrom)) hx hb hr hlocks () hw hP hD hS dX9_leastBehind_56
        · have hw := hw.2 c10
          refine lv_iload_n hx hb dX9_leastBehind_46 rfl (lv_at hl 5 rfl) ?_
          refine lv_iload hx hb dX9_leastBehind_47 (lv_at hl 0 rfl) ?_
          refine lv_iconst (v := -1) hx hb dX9_leastBehind_49 (by decide) ?_
          refine lv_ixor hx hb dX9_leastBehind_50 ?_
          refine lv_iand hx hb dX9_leastBehind_51 ?_
          refine lv_if_eq (tgt := 57) hx hb dX9_leastBehind_52 (by decide) (fun c11 => ?_) (fun c12 => ?_)
          · have hw := hw.1 c11
            refine lv_aload_n hx hb dX9_leastBehind_57 rfl (lv_at hl 2 rfl) ?_
            refine lv_iload_n hx hb dX9_leastBehind_58 rfl (lv_at hl 5 rfl) ?_
            refine lv_iload_n hx hb dX9_leastBehind_59 rfl (lv_at hl 3 rfl) ?_
            obtain ⟨hPc, hDc⟩ := x_sub (wc := (wld_X5_greatestWithin cI cJ cZ h_p0 ad_p0 p0_places p0_steps p0_coloured p0_putsInto p0_takesFrom)) hP hD [0, 1, 2] (n := 3) rfl rfl (by decide +kernel)
            refine x_calli (ws' := fun (u : Unit) => (wld_X9_leastBehind cI cJ cZ h_p0 ad_p0 p0_places p0_steps p0_coloured p0_putsInto p0_takesFrom)) hP hD hS hA [0, 1, 2] [] [0, 1, 2] (n := 3) (k := 3) rfl (fun _ => rfl) rfl (by decide +kernel) (fun _ => rfl) (va_runV (As := [.int a3, .int a1]) (rest := []) ⟨hx, hb, hml, hown, hts⟩ (c_X5_greatestWithin (l := l) (dC := dC) (dI := dI) (cI := cI) (cJ := cJ) (cZ := cZ) (sz := H.size) (h_p0 := h_p0) (ad_p0 := ad_p0) (p0_places := p0_places) (p0_steps := p0_steps) (p0_coloured := p0_coloured) (p0_putsInto := p0_putsInto) (p0_takesFrom := p0_takesFrom) hw) (cwV 2 hts gX9_leastBehind_X5_greatestWithin rfl rfl rfl (by decide +kernel) ⟨by show _ ≤ _; simp only []; omega, by show _ ≤ _; simp only []; omega⟩) ⟨xPre_blind, va_recv hK hP (ci := 5) (q0 := 0) rfl rfl, xPre_at hK hPc hDc n1 n2⟩ rfl rfl hl.1 rfl (lv_room (Nat.le_of_ble_eq_true rfl)) dX9_leastBehind_60 ⟨Nat.zero_le _, Nat.zero_le _⟩) (fun r13 u H locs hw hP hD hS => ?_)
            try dsimp only at hw
            have hP : va_P (dC, dI) vwCl (wld_X9_leastBehind cI cJ cZ h_p0 ad_p0 p0_places p0_steps p0_coloured p0_putsInto p0_takesFrom) H := hP
            have hD : va_D A (wld_X9_leastBehind cI cJ cZ h_p0 ad_p0 p0_places p0_steps p0_coloured p0_putsInto p0_takesFrom) := hD
            refine lv_if_eq (tgt := 86) hx hb dX9_leastBehind_63 (by decide) (fun c14 => ?_) (fun c15 => ?_)
            · have hw := hw.1 c14
              refine lv_aload_n hx hb dX9_leastBehind_86 rfl (lv_at hl 2 rfl) ?_
              refine lv_iload_n hx hb dX9_leastBehind_87 rfl (lv_at hl 3 rfl) ?_
              refine lv_iload_n hx hb dX9_leastBehind_88 rfl (lv_at hl 4 rfl) ?_
              refine lv_iload_n hx hb dX9_leastBehind_89 rfl (lv_at hl 5 rfl) ?_
              refine lv_iload hx hb dX9_leastBehind_90 (lv_at hl 6 rfl) ?_
              refine lv_iconst (v := 1) hx hb dX9_leastBehind_92 (by decide) ?_
              refine lv_isub hx hb dX9_leastBehind_93 ?_
              obtain ⟨hPc, hDc⟩ := x_sub (wc := (wld_X9_leastBehind cI cJ cZ h_p0 ad_p0 p0_places p0_steps p0_coloured p0_putsInto p0_takesFrom)) hP hD [0, 1, 2] (n := 3) rfl rfl (by decide +kernel)
              refine x_calli (ws' := fun (u : Unit) => (wld_X9_leastBehind cI cJ cZ h_p0 ad_p0 p0_places p0_steps p0_coloured p0_putsInto p0_takesFrom)) hP hD hS hA [0, 1, 2] [] [0, 1, 2] (n := 3) (k := 3) rfl (fun _ => rfl) rfl (by decide +kernel) (fun _ => rfl) (va_runS (As := [.ref h_p0, .int a1, .int a2, .int a3, .int (a4 - (1 : Int32))]) (rest := []) ⟨hx, hb, hml, hown, hts⟩ (ih _ hw) (va_cwS 5 hts gX9_leastBehind_X9_leastBehind rfl rfl rfl (by decide +kernel) ⟨by show _ ≤ _; simp only []; omega, by show _ ≤ _; simp only []; omega⟩) ⟨xPre_blind, xPre_at hK hPc hDc n1 n2⟩ rfl rfl hl.1 rfl (lv_room (Nat.le_of_ble_eq_true rfl)) dX9_leastBehind_94 ⟨Nat.zero_le _, Nat.zero_le _⟩) (fun r16 u H locs hw hP hD hS => ?_)
              try dsimp only at hw
              have hP : va_P (dC, dI) vwCl (wld_X9_leastBehind cI cJ cZ h_p0 ad_p0 p0_places p0_steps p0_coloured p0_putsInto p0_takesFrom) H := hP
              have hD : va_D A (wld_X9_leastBehind cI cJ cZ h_p0 ad_p0 p0_places p0_steps p0_coloured p0_putsInto p0_takesFrom) := hD
              refine lv_istore (lv' := [(7, .int r16), (6, .int r8), (5, .int x5), (0, .ref h_p0), (1, .int a1), (2, .int a2), (3, .int a3), (4, .int a4)]) hx hb dX9_leastBehind_97 hl (by decide) rfl (fun ls hl => ?_)
              refine lv_iload hx hb dX9_leastBehind_99 (lv_at hl 0 rfl) ?_
              refine lv_if_ne (tgt := 109) hx hb dX9_leastBehind_101 (by decide) (fun c17 => ?_) (fun c18 => ?_)
              · have hw := hw.1 c17
                refine lv_iload hx hb dX9_leastBehind_109 (lv_at hl 0 rfl) ?_
                exact x_iret (w1 := fun (u : Unit) => (wld_X9_leastBehind cI cJ cZ h_p0 ad_p0 p0_places p0_steps p0_coloured p0_putsInto p0_takesFrom)) hx hb hr hlocks () hw hP hD hS dX9_leastBehind_111
              · have hw := hw.2 c18
                refine lv_iload hx hb dX9_leastBehind_104 (lv_at hl 7 rfl) ?_
                refine lv_if_ne (tgt := 112) hx hb dX9_leastBehind_106 (by decide) (fun c19 => ?_) (fun c20 => ?_)
                · have hw := hw.1 c19
                  refine lv_aload_n hx hb dX9_leastBehind_112 rfl (lv_at hl 3 rfl) ?_
                  refine lv_iload_n hx hb dX9_leastBehind_113 rfl (lv_at hl 4 rfl) ?_
                  refine lv_iload_n hx hb dX9_leastBehind_114 rfl (lv_at hl 5 rfl) ?_
                  refine lv_iload_n hx hb dX9_leastBehind_115 rfl (lv_at hl 6 rfl) ?_
                  refine lv_iconst (v := 1) hx hb dX9_leastBehind_116 (by decide) ?_
                  refine lv_iload hx hb dX9_leastBehind_117 (lv_at hl 7 rfl) ?_
                  refine lv_iconst (v := 1) hx hb dX9_leastBehind_119 (by decide) ?_
                  refine lv_isub hx hb dX9_leastBehind_120 ?_
                  refine lv_ishl hx hb dX9_leastBehind_121 ?_
                  refine lv_ior hx hb dX9_leastBehind_122 ?_
                  refine lv_iload hx hb dX9_leastBehind_123 (lv_at hl 7 rfl) ?_
                  refine lv_iconst (v := 1) hx hb dX9_leastBehind_125 (by decide) ?_
                  refine lv_isub hx hb dX9_leastBehind_126 ?_
                  obtain ⟨hPc, hDc⟩ := x_sub (wc := (wld_X9_leastBehind cI cJ cZ h_p0 ad_p0 p0_places p0_steps p0_coloured p0_putsInto p0_takesFrom)) hP hD [0, 1, 2] (n := 3) rfl rfl (by decide +kernel)
                  refine x_calli (ws' := fun (u : Unit) => (wld_X9_leastBehind cI cJ cZ h_p0 ad_p0 p0_places p0_steps p0_coloured p0_putsInto p0_takesFrom)) hP hD hS hA [0, 1, 2] [] [0, 1, 2] (n := 3) (k := 3) rfl (fun _ => rfl) rfl (by decide +kernel) (fun _ => rfl) (va_runS (As := [.ref h_p0, .int a1, .int a2, .int (a3 ||| ((1 : Int32) <<< ((a4 - (1 : Int32)) &&& 31))), .int (a4 - (1 : Int32))]) (rest := []) ⟨hx, hb, hml, hown, hts⟩ (ih _ hw) (va_cwS 5 hts gX9_leastBehind_X9_leastBehind rfl rfl rfl (by decide +kernel) ⟨by show _ ≤ _; simp only []; omega, by show _ ≤ _; simp only []; omega⟩) ⟨xPre_blind, xPre_at hK hPc hDc n1 n2⟩ rfl rfl hl.1 rfl (lv_room (Nat.le_of_ble_eq_true rfl)) dX9_leastBehind_127 ⟨Nat.zero_le _, Nat.zero_le _⟩) (fun r21 u H locs hw hP hD hS => ?_)
                  try dsimp only at hw
                  have hP : va_P (dC, dI) vwCl (wld_X9_leastBehind cI cJ cZ h_p0 ad_p0 p0_places p0_steps p0_coloured p0_putsInto p0_takesFrom) H := hP
                  have hD : va_D A (wld_X9_leastBehind cI cJ cZ h_p0 ad_p0 p0_places p0_steps p0_coloured p0_putsInto p0_takesFrom) := hD
                  exact x_iret (w1 := fun (u : Unit) => (wld_X9_leastBehind cI cJ cZ h_p0 ad_p0 p0_places p0_steps p0_coloured p0_putsInto p0_takesFrom)) hx hb hr hlocks () hw hP hD hS dX9_leastBehind_130
                · have hw := hw.2 c20
                  refine lv_iload hx hb dX9_leastBehind_109 (lv_at hl 0 rfl) ?_
                  exact x_iret (w1 := fun (u : Unit) => (wld_X9_leastBehind cI cJ cZ h_p0 ad_p0 p0_places p0_steps p0_coloured p0_putsInto p0_takesFrom)) hx hb hr hlocks () hw hP hD hS dX9_leastBehind_111
            · have hw := hw.2 c15
              refine lv_iload_n hx hb dX9_leastBehind_66 rfl (lv_at hl 5 rfl) ?_
              refine lv_iload_n hx hb dX9_leastBehind_67 rfl (lv_at hl 4 rfl) ?_
              refine lv_icmp_le (tgt := 84) hx hb dX9_leastBehind_68 (by decide) (fun c22 => ?_) (fun c23 => ?_)
              · have hw := hw.1 c22
                refine lv_iconst (v := 0) hx hb dX9_leastBehind_84 (by decide) ?_
                exact x_iret (w1 := fun (u : Unit) => (wld_X9_leastBehind cI cJ cZ h_p0 ad_p0 p0_places p0_steps p0_coloured p0_putsInto p0_takesFrom)) hx hb hr hlocks () hw hP hD hS dX9_leastBehind_85
              · have hw := hw.2 c23
                refine lv_aload_n hx hb dX9_leastBehind_71 rfl (lv_at hl 2 rfl) ?_
                refine lv_iload_n hx hb dX9_leastBehind_72 rfl (lv_at hl 5 rfl) ?_
                refine lv_iload_n hx hb dX9_leastBehind_73 rfl (lv_at hl 3 rfl) ?_
                obtain ⟨hPc, hDc⟩ := x_sub (wc := (wld_X5_isLeast cI cJ cZ h_p0 ad_p0 p0_places p0_steps p0_coloured p0_putsInto p0_takesFrom)) hP hD [0, 1, 2] (n := 3) rfl rfl (by decide +kernel)
                refine x_calli (ws' := fun (u : Unit) => (wld_X9_leastBehind cI cJ cZ h_p0 ad_p0 p0_places p0_steps p0_coloured p0_putsInto p0_takesFrom)) hP hD hS hA [0, 1, 2] [] [0, 1, 2] (n := 3) (k := 3) rfl (fun _ => rfl) rfl (by decide +kernel) (fun _ => rfl) (va_runV (As := [.int a3, .int a1]) (rest := []) ⟨hx, hb, hml, hown, hts⟩ (c_X5_isLeast (l := l) (dC := dC) (dI := dI) (cI := cI) (cJ := cJ) (cZ := cZ) (sz := H.size) (h_p0 := h_p0) (ad_p0 := ad_p0) (p0_places := p0_places) (p0_steps := p0_steps) (p0_coloured := p0_coloured) (p0_putsInto := p0_putsInto) (p0_takesFrom := p0_takesFrom) hw) (cwV 2 hts gX9_leastBehind_X5_isLeast rfl rfl rfl (by decide +kernel) ⟨by show _ ≤ _; simp only []; omega, by show _ ≤ _; simp only []; omega⟩) ⟨xPre_blind, va_recv hK hP (ci := 5) (q0 := 0) rfl rfl, xPre_at hK hPc hDc n1 n2⟩ rfl rfl hl.1 rfl (lv_room (Nat.le_of_ble_eq_true rfl)) dX9_leastBehind_74 ⟨Nat.zero_le _, Nat.zero_le _⟩) (fun r24 u H locs hw hP hD hS => ?_)
                try dsimp only at hw
                have hP : va_P (dC, dI) vwCl (wld_X9_leastBehind cI cJ cZ h_p0 ad_p0 p0_places p0_steps p0_coloured p0_putsInto p0_takesFrom) H := hP
                have hD : va_D A (wld_X9_leastBehind cI cJ cZ h_p0 ad_p0 p0_places p0_steps p0_coloured p0_putsInto p0_takesFrom) := hD
                refine lv_if_eq (tgt := 84) hx hb dX9_leastBehind_77 (by decide) (fun c25 => ?_) (fun c26 => ?_)
                · have hw := hw.1 c25
                  refine lv_iconst (v := 0) hx hb dX9_leastBehind_84 (by decide) ?_
                  exact x_iret (w1 := fun (u : Unit) => (wld_X9_leastBehind cI cJ cZ h_p0 ad_p0 p0_places p0_steps p0_coloured p0_putsInto p0_takesFrom)) hx hb hr hlocks () hw hP hD hS dX9_leastBehind_85
                · have hw := hw.2 c26
                  refine lv_iload_n hx hb dX9_leastBehind_80 rfl (lv_at hl 5 rfl) ?_
                  refine lv_goto (tgt := 85) hx hb dX9_leastBehind_81 (by decide) ?_
                  exact x_iret (w1 := fun (u : Unit) => (wld_X9_leastBehind cI cJ cZ h_p0 ad_p0 p0_places p0_steps p0_coloured p0_putsInto p0_takesFrom)) hx hb hr hlocks () hw hP hD hS dX9_leastBehind_85
          · have hw := hw.2 c12
            refine lv_iconst (v := 0) hx hb dX9_leastBehind_55 (by decide) ?_
            exact x_iret (w1 := fun (u : Unit) => (wld_X9_leastBehind cI cJ cZ h_p0 ad_p0 p0_places p0_steps p0_coloured p0_putsInto p0_takesFrom)) hx hb hr hlocks () hw hP hD hS dX9_leastBehind_56
      · have hw := hw.2 c7
        refine lv_iconst (v := 0) hx hb dX9_leastBehind_30 (by decide) ?_
        exact x_iret (w1 := fun (u : Unit) => (wld_X9_leastBehind cI cJ cZ h_p0 ad_p0 p0_places p0_steps p0_coloured p0_putsInto p0_takesFrom)) hx hb hr hlocks () hw hP hD hS dX9_leastBehind_31
    · have hw := hw.2 c4
      refine lv_iconst (v := 0) hx hb dX9_leastBehind_12 (by decide) ?_
      exact x_iret (w1 := fun (u : Unit) => (wld_X9_leastBehind cI cJ cZ h_p0 ad_p0 p0_places p0_steps p0_coloured p0_putsInto p0_takesFrom)) hx hb hr hlocks () hw hP hD hS dX9_leastBehind_13
theorem c_X9_leastBehind {l : Launch} {dC : Nat → ClassId} {dI : Nat → Nat → Nat} {sz : Nat} {cI cJ cZ : ClassId} {h_p0 : Nat} {ad_p0 : Nat → Nat} {p0_places : Int32} {p0_steps : Int32} {p0_coloured : Int32} {p0_putsInto : Nat → Int32} {p0_takesFrom : Nat → Int32} {a1 : Int32} {a2 : Int32} {a3 : Int32} {a4 : Int32} {post : Int32 → Prop} (hw : w_X9_leastBehind p0_places p0_steps p0_putsInto p0_takesFrom 18 a1 a2 a3 a4 post) : Met l yX9_leastBehind wsX9_leastBehind ({ frames := 21, cells := 0, slots := 0, locals := 558 }) (va_Pc [.ref h_p0, .int a1, .int a2, .int a3, .int a4] (xPre (dC, dI) cI cJ cZ (wld_X9_leastBehind cI cJ cZ h_p0 ad_p0 p0_places p0_steps p0_coloured p0_putsInto p0_takesFrom) sz)) (q_X9_leastBehind dC dI cI cJ cZ h_p0 ad_p0 p0_places p0_steps p0_coloured p0_putsInto p0_takesFrom post (va_A (wld_X9_leastBehind cI cJ cZ h_p0 ad_p0 p0_places p0_steps p0_coloured p0_putsInto p0_takesFrom) sz)) 0 0 (va_A (wld_X9_leastBehind cI cJ cZ h_p0 ad_p0 p0_places p0_steps p0_coloured p0_putsInto p0_takesFrom) sz) := c_X9_leastBehind_d 18 post hw
abbrev wld_X7_collect (cI cJ cZ : ClassId) (h_p0 : Nat) (h_p1 : Nat) (ad_p0 : Nat → Nat) (ad_p1 : Nat → Nat) (p0_size : Int32) (p1_places : Int32) (p1_steps : Int32) (p1_coloured : Int32) (p0_sets : Nat → Int32) (p1_putsInto : Nat → Int32) (p1_takesFrom : Nat → Int32) : va_W := [(h_p0, .inr (7, [.ref (ad_p0 0), .int p0_size])), ((ad_p0 0), .inl (cI, 500, .inl p0_sets)), (h_p1, .inr (5, [.ref (ad_p1 0), .ref (ad_p1 1), .ref (ad_p1 2), .ref (ad_p1 3), .ref (ad_p1 4), .ref (ad_p1 5), .ref (ad_p1 6), .ref (ad_p1 7), .ref (ad_p1 8), .ref (ad_p1 9), .ref (ad_p1 10), .int p1_places, .int p1_steps, .int p1_coloured])), ((ad_p1 9), .inl (cI, 16, .inl p1_putsInto)), ((ad_p1 8), .inl (cI, 16, .inl p1_takesFrom))]
abbrev q_X7_collect (dC : Nat → ClassId) (dI : Nat → Nat → Nat) (cI cJ cZ : ClassId) (h_p0 : Nat) (h_p1 : Nat) (ad_p0 : Nat → Nat) (ad_p1 : Nat → Nat) (p0_size : Int32) (p1_places : Int32) (p1_steps : Int32) (p1_coloured : Int32) (p0_sets : Nat → Int32) (p1_putsInto : Nat → Int32) (p1_takesFrom : Nat → Int32) (post : (Int32) → (Nat → Int32) → Prop) (A : Nat → Prop) : Array Value → State → Outcome → State → Prop := va_Qv (fun (u : (Int32) × (Nat → Int32)) => post (u.1) (u.2)) (fun (u : (Int32) × (Nat → Int32)) t => xPost (dC, dI) A (wld_X7_collect cI cJ cZ h_p0 h_p1 ad_p0 ad_p1 (u.1) p1_places p1_steps p1_coloured (u.2) p1_putsInto p1_takesFrom) t) A
def w_X7_collect_L11b (v2 : Int32) (v3 : Int32) (p1_places : Int32) (p1_steps : Int32) (p1_putsInto : Nat → Int32) (p1_takesFrom : Nat → Int32) (post : (Int32) → (Nat → Int32) → Prop) (K : (Int32) → (Int32) → (Int32) → (Nat → Int32) → Prop) (rec : (Int32) → (Int32) → (Int32) → (Nat → Int32) → Prop) (v4 : Int32) (v5 : Int32) (p0_size : Int32) (p0_sets : Nat → Int32) : Prop :=
    (v3 ≤ v5 →
      K v4 v5 p0_size p0_sets) ∧
    (¬ v3 ≤ v5 →
      ((500 : Int32) ≤ v5 →
        K v4 v5 p0_size p0_sets) ∧
      (¬ (500 : Int32) ≤ v5 →
        w_X9_leastBehind p1_places p1_steps p1_putsInto p1_takesFrom 18 v2 v4 (0 : Int32) p1_places (fun r5 =>
        (¬ r5 = 0 →
          vp_in v5 500 ∧
          ∀ x8 : Int32, x8 = (v5 + (1 : Int32)) →
          ∀ x9 : Int32, x9 = v5 + (1 : Int32) →
          rec r5 x9 x8 (upd p0_sets v5.toNatClampNeg r5)) ∧
        (r5 = 0 →
          (post p0_size p0_sets)))))
def w_X7_collect_L11 (v2 : Int32) (v3 : Int32) (p1_places : Int32) (p1_steps : Int32) (p1_putsInto : Nat → Int32) (p1_takesFrom : Nat → Int32) (post : (Int32) → (Nat → Int32) → Prop) (K : (Int32) → (Int32) → (Int32) → (Nat → Int32) → Prop) : Nat → (Int32) → (Int32) → (Int32) → (Nat → Int32) → Prop
  | 0, _, _, _, _ => False
  | n + 1, v4, v5, p0_size, p0_sets => w_X7_collect_L11b v2 v3 p1_places p1_steps p1_putsInto p1_takesFrom post K (w_X7_collect_L11 v2 v3 p1_places p1_steps p1_putsInto p1_takesFrom post K n) v4 v5 p0_size p0_sets
def w_X7_collect (p0_size : Int32) (p1_places : Int32) (p1_steps : Int32) (p0_sets : Nat → Int32) (p1_putsInto : Nat → Int32) (p1_takesFrom : Nat → Int32) (a2 : Int32) (a3 : Int32) (post : (Int32) → (Nat → Int32) → Prop) : Prop :=
  ∃ n : Nat, w_X7_collect_L11 a2 a3 p1_places p1_steps p1_putsInto p1_takesFrom post (fun v11 v12 s13 s14 =>
      (post s13 s14)) n (0 : Int32) (0 : Int32) (0 : Int32) p0_sets
set_option maxHeartbeats 4000000 in
set_option maxRecDepth 100000 in
theorem c_X7_collect_L11 {p : Program} {l : Launch} {e : Env} {s : State} {m : MethodId} {args : Array Value} {below : List Frame} {meth : Method} {c : Code} {dC : Nat → ClassId} {dI : Nat → Nat → Nat} {A : Nat → Prop} {cI cJ cZ : ClassId} {h_p0 : Nat} {h_p1 : Nat} {ad_p0 : Nat → Nat} {ad_p1 : Nat → Nat} {p1_places : Int32} {p1_steps : Int32} {p1_coloured : Int32} {p1_putsInto : Nat → Int32} {p1_takesFrom : Nat → Int32} {v2 : Int32} {v3 : Int32} {z_p0_size : Int32} {z_p0_sets : Nat → Int32} {post : (Int32) → (Nat → Int32) → Prop} {K : (Int32) → (Int32) → (Int32) → (Nat → Int32) → Prop} (E0 : xEnv p s m args meth c cX7_collect none 6 RX7 wsX7_collect (dC, dI) cI cJ cZ A) (hk : ∀ (v4 : Int32) (v5 : Int32) (p0_size : Int32) (p0_sets : Nat → Int32) (H : Heap) (locs : List Loc) (ls : Array Slot), K v4 v5 p0_size p0_sets → va_P (dC, dI) vwCl (wld_X7_collect cI cJ cZ h_p0 h_p1 ad_p0 ad_p1 p0_size p1_places p1_steps p1_coloured p0_sets p1_putsInto p1_takesFrom) H → va_D A (wld_X7_collect cI cJ cZ h_p0 h_p1 ad_p0 ad_p1 p0_size p1_places p1_steps p1_coloured p0_sets p1_putsInto p1_takesFrom) → va_S A s.heap H locs → lv_has ls 6 [] → W p l e ({ frames := 22, cells := 0, slots := 0, locals := 585 }) s m args below meth c H locs 0 0 (MQ below (q_X7_collect dC dI cI cJ cZ h_p0 h_p1 ad_p0 ad_p1 z_p0_size p1_places p1_steps p1_coloured z_p0_sets p1_putsInto p1_takesFrom post A) args s 0 0 A) (F0 m 68 ls [])) : ∀ (n : Nat) (v4 : Int32) (v5 : Int32) (p0_size : Int32) (p0_sets : Nat → Int32), w_X7_collect_L11 v2 v3 p1_places p1_steps p1_putsInto p1_takesFrom post K n v4 v5 p0_size p0_sets → ∀ (H : Heap) (locs : List Loc) (ls : Array Slot), va_P (dC, dI) vwCl (wld_X7_collect cI cJ cZ h_p0 h_p1 ad_p0 ad_p1 p0_size p1_places p1_steps p1_coloured p0_sets p1_putsInto p1_takesFrom) H → va_D A (wld_X7_collect cI cJ cZ h_p0 h_p1 ad_p0 ad_p1 p0_size p1_places p1_steps p1_coloured p0_sets p1_putsInto p1_takesFrom) → va_S A s.heap H locs → lv_has ls 6 [(0, .ref h_p0), (1, .ref h_p1), (2, .int v2), (3, .int v3), (4, .int v4), (5, .int v5)] → W p l e ({ frames := 22, cells := 0, slots := 0, locals := 585 }) s m args below meth c H locs 0 0 (MQ below (q_X7_collect dC dI cI cJ cZ h_p0 h_p1 ad_p0 ad_p1 z_p0_size p1_places p1_steps p1_coloured z_p0_sets p1_putsInto p1_takesFrom post A) args s 0 0 A) (F0 m 11 ls []) := by
  obtain ⟨hx, hb, hr, hml, hown, hts, hlocks, hK, hA, n1, n2⟩ := id E0
  have iX5 : ∀ w ∈ u_ws RX5 TX5 14, w ∈ wsX7_collect := fun w h => List.mem_cons_of_mem _ (List.mem_append_right _ h)
  have iX7 : ∀ w ∈ u_ws RX7 TX7 2, w ∈ wsX7_collect := fun w h => List.mem_cons_of_mem _ (List.mem_append_left _ (List.mem_append_right _ h))
  intro n
  induction n with
  | zero => intro v4 v5 p0_size p0_sets hw; exact hw.elim
  | succ n ih =>
    intro v4 v5 p0_size p0_sets hw H locs ls hP hD hS hl
    have hw : w_X7_collect_L11b v2 v3 p1_places p1_steps p1_putsInto p1_takesFrom post K (w_X7_collect_L11 v2 v3 p1_places p1_steps p1_putsInto p1_takesFrom post K n) v4 v5 p0_size p0_sets := hw
    unfold w_X7_collect_L11b at hw
    refine lv_iload hx hb dX7_collect_11 (lv_at hl 5 rfl) ?_
    refine lv_iload_n hx hb dX7_collect_13 rfl (lv_at hl 3 rfl) ?_
    refine lv_icmp_ge (tgt := 68) hx hb dX7_collect_14 (by decide) (fun c1 => ?_) (fun c2 => ?_)
    · have hw := hw.1 c1
      exact hk _ _ _ _ _ _ _ hw hP hD hS (lv_sub hl [] rfl)
    · have hw := hw.2 c2
      refine lv_iload hx hb dX7_collect_17 (lv_at hl 5 rfl) ?_
      refine lv_sipush (v := 500) hx hb dX7_collect_19 (by decide) ?_
      refine lv_icmp_ge (tgt := 68) hx hb dX7_collect_22 (by decide) (fun c3 => ?_) (fun c4 => ?_)
      · have hw := hw.1 c3
        exact hk _ _ _ _ _ _ _ hw hP hD hS (lv_sub hl [] rfl)
      · have hw := hw.2 c4
        refine lv_aload_n hx hb dX7_collect_25 rfl (lv_at hl 1 rfl) ?_
        refine lv_iload_n hx hb dX7_collect_26 rfl (lv_at hl 2 rfl) ?_
        refine lv_iload hx hb dX7_collect_27 (lv_at hl 4 rfl) ?_
        refine lv_iconst (v := 0) hx hb dX7_collect_29 (by decide) ?_
        refine lv_aload_n hx hb dX7_collect_30 rfl (lv_at hl 1 rfl) ?_
        refine va_get (D := (dC, dI)) (ci := 5) (v := .int p1_places) (C := RX5) (T := TX5) (N := 14) hx hb hts iX5 hown hK hP 2 rfl rfl 11 (by decide) (hts (.fieldLink RX7 19 "NetHouse$Net" "places" "I") (by decide +kernel)) (fun _ h9 => h9) rfl dX7_collect_31 ?_
        obtain ⟨hPc, hDc⟩ := x_sub (wc := (wld_X9_leastBehind cI cJ cZ h_p1 ad_p1 p1_places p1_steps p1_coloured p1_putsInto p1_takesFrom)) hP hD [2, 3, 4] (n := 5) rfl rfl (by decide +kernel)
        refine x_calli (ws' := fun (u : Unit) => (wld_X7_collect cI cJ cZ h_p0 h_p1 ad_p0 ad_p1 p0_size p1_places p1_steps p1_coloured p0_sets p1_putsInto p1_takesFrom)) hP hD hS hA [2, 3, 4] [0, 1] [0, 1, 2, 3, 4] (n := 5) (k := 3) rfl (fun _ => rfl) rfl (by decide +kernel) (fun _ => rfl) (va_runSN (As := [.ref h_p1, .int v2, .int v4, .int (0 : Int32), .int p1_places]) (rest := []) ⟨hx, hb, hml, hown, hts⟩ (c_X9_leastBehind (l := l) (dC := dC) (dI := dI) (cI := cI) (cJ := cJ) (cZ := cZ) (sz := H.size) (h_p0 := h_p1) (ad_p0 := ad_p1) (p0_places := p1_places) (p0_steps := p1_steps) (p0_coloured := p1_coloured) (p0_putsInto := p1_putsInto) (p0_takesFrom := p1_takesFrom) hw) ⟨va_cnB (host := RX9) 5 hts gX7_collect_X9_leastBehind_n24 rfl rfl rfl n2 (hts (.initialized RX9) (by decide +kernel)) (by decide +kernel) ⟨Nat.le_of_ble_eq_true rfl, Nat.le_of_ble_eq_true rfl⟩, hts (.static yX9_leastBehind) (by decide +kernel), trivial⟩ ⟨xPre_blind, xPre_at hK hPc hDc n1 n2⟩ rfl rfl hl.1 rfl (lv_room (Nat.le_of_ble_eq_true rfl)) dX7_collect_34 ⟨Nat.zero_le _, Nat.zero_le _⟩) (fun r5 u H locs hw hP hD hS => ?_)
        try dsimp only at hw
        have hP : va_P (dC, dI) vwCl (wld_X7_collect cI cJ cZ h_p0 h_p1 ad_p0 ad_p1 p0_size p1_places p1_steps p1_coloured p0_sets p1_putsInto p1_takesFrom) H := hP
        have hD : va_D A (wld_X7_collect cI cJ cZ h_p0 h_p1 ad_p0 ad_p1 p0_size p1_places p1_steps p1_coloured p0_sets p1_putsInto p1_takesFrom) := hD
        refine lv_istore (lv' := [(4, .int r5), (0, .ref h_p0), (1, .ref h_p1), (2, .int v2), (3, .int v3), (5, .int v5)]) hx hb dX7_collect_37 hl (by decide) rfl (fun ls hl => ?_)
        refine lv_iload hx hb dX7_collect_39 (lv_at hl 0 rfl) ?_
        refine lv_if_ne (tgt := 45) hx hb dX7_collect_41 (by decide) (fun c6 => ?_) (fun c7 => ?_)
        · have hw := hw.1 c6
          refine lv_aload_n hx hb dX7_collect_45 rfl (lv_at hl 1 rfl) ?_
          refine va_get (D := (dC, dI)) (ci := 7) (v := .ref (ad_p0 0)) (C := RX7) (T := TX7) (N := 2) hx hb hts iX7 hown hK hP 0 rfl rfl 0 (by decide) (hts (.fieldLink RX7 9 "NetHouse$SetList" "sets" "[I") (by decide +kernel)) (fun _ h9 => h9) rfl dX7_collect_46 ?_
          refine lv_iload hx hb dX7_collect_49 (lv_at hl 5 rfl) ?_
          refine lv_iload hx hb dX7_collect_51 (lv_at hl 0 rfl) ?_
          refine va_iast hx hb hK hP hD hS 1 0 rfl rfl hw.1 dX7_collect_53 (fun H locs hP hD hS => ?_)
          have hw := hw.2
          have hP : va_P (dC, dI) vwCl (wld_X7_collect cI cJ cZ h_p0 h_p1 ad_p0 ad_p1 p0_size p1_places p1_steps p1_coloured (upd p0_sets v5.toNatClampNeg r5) p1_putsInto p1_takesFrom) H := hP
          have hD : va_D A (wld_X7_collect cI cJ cZ h_p0 h_p1 ad_p0 ad_p1 p0_size p1_places p1_steps p1_coloured (upd p0_sets v5.toNatClampNeg r5) p1_putsInto p1_takesFrom) := hD
          refine lv_aload_n hx hb dX7_collect_54 rfl (lv_at hl 1 rfl) ?_
          refine lv_iload hx hb dX7_collect_55 (lv_at hl 5 rfl) ?_
          refine lv_iconst (v := 1) hx hb dX7_collect_57 (by decide) ?_
          refine lv_iadd hx hb dX7_collect_58 ?_
          refine lv_topi (fun x8 ex8 => ?_)
          have hw := hw x8 ex8
          refine va_put (D := (dC, dI)) (ci := 7) (v := .int x8) (ty := .int) (C := RX7) (T := TX7) (N := 2) hx hb hts iX7 tyX7 tyX7_ok nmX7 hown hK hP hD hS 0 rfl rfl 1 (by decide) (hts (.fieldLink RX7 15 "NetHouse$SetList" "size" "I") (by decide +kernel)) (fun _ h9 => h9) rfl (by decide +kernel) rfl rfl (Nat.le_of_ble_eq_true rfl) dX7_collect_59 (fun H locs hP hD hS => ?_)
          have hP : va_P (dC, dI) vwCl (wld_X7_collect cI cJ cZ h_p0 h_p1 ad_p0 ad_p1 x8 p1_places p1_steps p1_coloured (upd p0_sets v5.toNatClampNeg r5) p1_putsInto p1_takesFrom) H := hP
          have hD : va_D A (wld_X7_collect cI cJ cZ h_p0 h_p1 ad_p0 ad_p1 x8 p1_places p1_steps p1_coloured (upd p0_sets v5.toNatClampNeg r5) p1_putsInto p1_takesFrom) := hD
          obtain ⟨x9, ex9⟩ : ∃ y : Int32, y = v5 + (1 : Int32) := ⟨_, rfl⟩
          have hw := hw x9 ex9
          refine lv_iinc (v := x9) (lv' := [(5, .int x9), (4, .int r5), (0, .ref h_p0), (1, .ref h_p1), (2, .int v2), (3, .int v3)]) hx hb dX7_collect_62 hl (k := 5) rfl (by rw [ex9]; rfl) (by decide) rfl (fun ls hl => ?_)
          refine lv_goto (tgt := 11) hx hb dX7_collect_65 (by decide) ?_
          exact ih _ _ _ _ hw _ _ _ hP hD hS (lv_sub hl [2, 3, 4, 5, 1, 0] rfl)
        · have hw := hw.2 c7
          exact x_vret (w1 := fun (u : (Int32) × (Nat → Int32)) => (wld_X7_collect cI cJ cZ h_p0 h_p1 ad_p0 ad_p1 (u.1) p1_places p1_steps p1_coloured (u.2) p1_putsInto p1_takesFrom)) hx hb hr hlocks (p0_size, p0_sets) hw hP hD hS dX7_collect_44
set_option maxHeartbeats 4000000 in
set_option maxRecDepth 100000 in
theorem c_X7_collect {l : Launch} {dC : Nat → ClassId} {dI : Nat → Nat → Nat} {sz : Nat} {cI cJ cZ : ClassId} {h_p0 : Nat} {h_p1 : Nat} {ad_p0 : Nat → Nat} {ad_p1 : Nat → Nat} {p0_size : Int32} {p1_places : Int32} {p1_steps : Int32} {p1_coloured : Int32} {p0_sets : Nat → Int32} {p1_putsInto : Nat → Int32} {p1_takesFrom : Nat → Int32} {a2 : Int32} {a3 : Int32} {post : (Int32) → (Nat → Int32) → Prop} (hw : w_X7_collect p0_size p1_places p1_steps p0_sets p1_putsInto p1_takesFrom a2 a3 post) : Met l yX7_collect wsX7_collect ({ frames := 22, cells := 0, slots := 0, locals := 585 }) (va_Pc [.ref h_p0, .ref h_p1, .int a2, .int a3] (xPre (dC, dI) cI cJ cZ (wld_X7_collect cI cJ cZ h_p0 h_p1 ad_p0 ad_p1 p0_size p1_places p1_steps p1_coloured p0_sets p1_putsInto p1_takesFrom) sz)) (q_X7_collect dC dI cI cJ cZ h_p0 h_p1 ad_p0 ad_p1 p0_size p1_places p1_steps p1_coloured p0_sets p1_putsInto p1_takesFrom post (va_A (wld_X7_collect cI cJ cZ h_p0 h_p1 ad_p0 ad_p1 p0_size p1_places p1_steps p1_coloured p0_sets p1_putsInto p1_takesFrom) sz)) 0 0 (va_A (wld_X7_collect cI cJ cZ h_p0 h_p1 ad_p0 ad_p1 p0_size p1_places p1_steps p1_coloured p0_sets p1_putsInto p1_takesFrom) sz) := by
  refine x_met (cc := cX7_collect) (maxL := 6) (ret := none) (own := RX7) (Qc := fun A => (q_X7_collect dC dI cI cJ cZ h_p0 h_p1 ad_p0 ad_p1 p0_size p1_places p1_steps p1_coloured p0_sets p1_putsInto p1_takesFrom post A)) (by decide) rfl rfl (Nat.le_of_ble_eq_true rfl) ?_
  intro p e s m args below meth c A ls E0 hP hD hS hl
  obtain ⟨hx, hb, hr, hml, hown, hts, hlocks, hK, hA, n1, n2⟩ := id E0
  have iX5 : ∀ w ∈ u_ws RX5 TX5 14, w ∈ wsX7_collect := fun w h => List.mem_cons_of_mem _ (List.mem_append_right _ h)
  have iX7 : ∀ w ∈ u_ws RX7 TX7 2, w ∈ wsX7_collect := fun w h => List.mem_cons_of_mem _ (List.mem_append_left _ (List.mem_append_right _ h))
  have hS0 := hS
  have hl : lv_has ls 6 [(0, .ref h_p0), (1, .ref h_p1), (2, .int a2), (3, .int a3)] := hl
  unfold w_X7_collect at hw
  obtain ⟨H, hH⟩ : ∃ H, H = s.heap := ⟨_, rfl⟩
  have hS : va_S A s.heap H [] := by rw [hH]; exact hS
  have hP : va_P (dC, dI) vwCl (wld_X7_collect cI cJ cZ h_p0 h_p1 ad_p0 ad_p1 p0_size p1_places p1_steps p1_coloured p0_sets p1_putsInto p1_takesFrom) H := by rw [hH]; exact hP
  suffices hG : W p l e ({ frames := 22, cells := 0, slots := 0, locals := 585 }) s m args below meth c H [] 0 0 (MQ below (q_X7_collect dC dI cI cJ cZ h_p0 h_p1 ad_p0 ad_p1 p0_size p1_places p1_steps p1_coloured p0_sets p1_putsInto p1_takesFrom post A) args s 0 0 A) (F0 m 0 ls []) by rw [hH] at hG; exact hG
  clear hH
  refine lv_aload_n hx hb dX7_collect_0 rfl (lv_at hl 0 rfl) ?_
  refine lv_iconst (v := 0) hx hb dX7_collect_1 (by decide) ?_
  refine va_put (D := (dC, dI)) (ci := 7) (v := .int (0 : Int32)) (ty := .int) (C := RX7) (T := TX7) (N := 2) hx hb hts iX7 tyX7 tyX7_ok nmX7 hown hK hP hD hS 0 rfl rfl 1 (by decide) (hts (.fieldLink RX7 15 "NetHouse$SetList" "size" "I") (by decide +kernel)) (fun _ h9 => h9) rfl (by decide +kernel) rfl rfl (Nat.le_of_ble_eq_true rfl) dX7_collect_2 (fun H locs hP hD hS => ?_)
  have hP : va_P (dC, dI) vwCl (wld_X7_collect cI cJ cZ h_p0 h_p1 ad_p0 ad_p1 (0 : Int32) p1_places p1_steps p1_coloured p0_sets p1_putsInto p1_takesFrom) H := hP
  have hD : va_D A (wld_X7_collect cI cJ cZ h_p0 h_p1 ad_p0 ad_p1 (0 : Int32) p1_places p1_steps p1_coloured p0_sets p1_putsInto p1_takesFrom) := hD
  refine lv_iconst (v := 0) hx hb dX7_collect_5 (by decide) ?_
  refine lv_istore (lv' := [(4, .int (0 : Int32)), (0, .ref h_p0), (1, .ref h_p1), (2, .int a2), (3, .int a3)]) hx hb dX7_collect_6 hl (by decide) rfl (fun ls hl => ?_)
  refine lv_iconst (v := 0) hx hb dX7_collect_8 (by decide) ?_
  refine lv_istore (lv' := [(5, .int (0 : Int32)), (4, .int (0 : Int32)), (0, .ref h_p0), (1, .ref h_p1), (2, .int a2), (3, .int a3)]) hx hb dX7_collect_9 hl (by decide) rfl (fun ls hl => ?_)
  obtain ⟨n10, hw⟩ := hw
  refine c_X7_collect_L11 (l := l) (z_p0_size := (0 : Int32)) (z_p0_sets := p0_sets) E0 ?_ n10 _ _ _ _ hw _ _ _ hP hD hS (lv_sub hl [2, 3, 4, 5, 1, 0] rfl)
  · intro v11 v12 s13 s14 H locs ls hw hP hD hS hl
    have hP : va_P (dC, dI) vwCl (wld_X7_collect cI cJ cZ h_p0 h_p1 ad_p0 ad_p1 s13 p1_places p1_steps p1_coloured s14 p1_putsInto p1_takesFrom) H := hP
    have hD : va_D A (wld_X7_collect cI cJ cZ h_p0 h_p1 ad_p0 ad_p1 s13 p1_places p1_steps p1_coloured s14 p1_putsInto p1_takesFrom) := hD
    exact x_vret (w1 := fun (u : (Int32) × (Nat → Int32)) => (wld_X7_collect cI cJ cZ h_p0 h_p1 ad_p0 ad_p1 (u.1) p1_places p1_steps p1_coloured (u.2) p1_putsInto p1_takesFrom)) hx hb hr hlocks (s13, s14) hw hP hD hS dX7_collect_68
abbrev wld_X8_refusal (cI cJ cZ : ClassId) (h_p0 : Nat) (ad_p0 : Nat → Nat) (ad_p0_nodes : Nat → Nat) (p0_made : Int32) (p0_endlessNode : Int32) (p0_endlessBy : Int32) (p0_nodes_width : Int32) (p0_nodes_size : Int32) : va_W := [(h_p0, .inr (8, [.ref (ad_p0 0), .ref (ad_p0 1), .ref (ad_p0 2), .int p0_made, .int p0_endlessNode, .int p0_endlessBy])), ((ad_p0 0), .inr (4, [.ref (ad_p0_nodes 0), .ref (ad_p0_nodes 1), .ref (ad_p0_nodes 2), .ref (ad_p0_nodes 3), .ref (ad_p0_nodes 4), .int p0_nodes_width, .int p0_nodes_size]))]
abbrev q_X8_refusal (dC : Nat → ClassId) (dI : Nat → Nat → Nat) (cI cJ cZ : ClassId) (h_p0 : Nat) (ad_p0 : Nat → Nat) (ad_p0_nodes : Nat → Nat) (p0_made : Int32) (p0_endlessNode : Int32) (p0_endlessBy : Int32) (p0_nodes_width : Int32) (p0_nodes_size : Int32) (post : Int32 → Prop) (A : Nat → Prop) : Array Value → State → Outcome → State → Prop := va_Qi (fun r (u : Unit) => post r ) (fun (u : Unit) t => xPost (dC, dI) A (wld_X8_refusal cI cJ cZ h_p0 ad_p0 ad_p0_nodes p0_made p0_endlessNode p0_endlessBy p0_nodes_width p0_nodes_size) t) A
def w_X8_refusal (p0_made : Int32) (p0_nodes_size : Int32) (a1 : Int32) (post : Int32 → Prop) : Prop :=
  (¬ p0_made = 0 →
    (a1 < 0 →
      (post (-2000000001 : Int32))) ∧
    (¬ a1 < 0 →
      (p0_nodes_size ≤ a1 →
        (post (-2000000001 : Int32))) ∧
      (¬ p0_nodes_size ≤ a1 →
        (post (0 : Int32))))) ∧
  (p0_made = 0 →
    (post (-2000000002 : Int32)))
set_option maxHeartbeats 4000000 in
set_option maxRecDepth 100000 in
theorem c_X8_refusal {l : Launch} {dC : Nat → ClassId} {dI : Nat → Nat → Nat} {sz : Nat} {cI cJ cZ : ClassId} {h_p0 : Nat} {ad_p0 : Nat → Nat} {ad_p0_nodes : Nat → Nat} {p0_made : Int32} {p0_endlessNode : Int32} {p0_endlessBy : Int32} {p0_nodes_width : Int32} {p0_nodes_size : Int32} {a1 : Int32} {post : Int32 → Prop} (hw : w_X8_refusal p0_made p0_nodes_size a1 post) : Met l yX8_refusal wsX8_refusal ({ frames := 0, cells := 0, slots := 0, locals := 0 }) (va_Pc [.ref h_p0, .int a1] (xPre (dC, dI) cI cJ cZ (wld_X8_refusal cI cJ cZ h_p0 ad_p0 ad_p0_nodes p0_made p0_endlessNode p0_endlessBy p0_nodes_width p0_nodes_size) sz)) (q_X8_refusal dC dI cI cJ cZ h_p0 ad_p0 ad_p0_nodes p0_made p0_endlessNode p0_endlessBy p0_nodes_width p0_nodes_size post (va_A (wld_X8_refusal cI cJ cZ h_p0 ad_p0 ad_p0_nodes p0_made p0_endlessNode p0_endlessBy p0_nodes_width p0_nodes_size) sz)) 0 0 (va_A (wld_X8_refusal cI cJ cZ h_p0 ad_p0 ad_p0_nodes p0_made p0_endlessNode p0_endlessBy p0_nodes_width p0_nodes_size) sz) := by
  refine x_met (cc := cX8_refusal) (maxL := 2) (ret := (some .int)) (own := RX8) (Qc := fun A => (q_X8_refusal dC dI cI cJ cZ h_p0 ad_p0 ad_p0_nodes p0_made p0_endlessNode p0_endlessBy p0_nodes_width p0_nodes_size post A)) (by decide) rfl rfl (Nat.le_of_ble_eq_true rfl) ?_
  intro p e s m args below meth c A ls E0 hP hD hS hl
  obtain ⟨hx, hb, hr, hml, hown, hts, hlocks, hK, hA, n1, n2⟩ := id E0
  have iX4 : ∀ w ∈ u_ws RX4 TX4 7, w ∈ wsX8_refusal := fun w h => List.mem_cons_of_mem _ (List.mem_append_right _ h)
  have iX8 : ∀ w ∈ u_ws RX8 TX8 6, w ∈ wsX8_refusal := fun w h => List.mem_cons_of_mem _ (List.mem_append_left _ (List.mem_append_right _ h))
  have hS0 := hS
  have hl : lv_has ls 2 [(0, .ref h_p0), (1, .int a1)] := hl
  unfold w_X8_refusal at hw
  obtain ⟨H, hH⟩ : ∃ H, H = s.heap := ⟨_, rfl⟩
  have hS : va_S A s.heap H [] := by rw [hH]; exact hS
  have hP : va_P (dC, dI) vwCl (wld_X8_refusal cI cJ cZ h_p0 ad_p0 ad_p0_nodes p0_made p0_endlessNode p0_endlessBy p0_nodes_width p0_nodes_size) H := by rw [hH]; exact hP
  suffices hG : W p l e ({ frames := 0, cells := 0, slots := 0, locals := 0 }) s m args below meth c H [] 0 0 (MQ below (q_X8_refusal dC dI cI cJ cZ h_p0 ad_p0 ad_p0_nodes p0_made p0_endlessNode p0_endlessBy p0_nodes_width p0_nodes_size post A) args s 0 0 A) (F0 m 0 ls []) by rw [hH] at hG; exact hG
  clear hH
  refine lv_aload_n hx hb dX8_refusal_0 rfl (lv_at hl 0 rfl) ?_
  refine va_get (D := (dC, dI)) (ci := 8) (v := .int p0_made) (C := RX8) (T := TX8) (N := 6) hx hb hts iX8 hown hK hP 0 rfl rfl 3 (by decide) (hts (.fieldLink RX8 31 "NetHouse$Tree" "made" "Z") (by decide +kernel)) (fun _ h9 => h9) rfl dX8_refusal_1 ?_
  refine lv_if_ne (tgt := 10) hx hb dX8_refusal_4 (by decide) (fun c1 => ?_) (fun c2 => ?_)
  · have hw := hw.1 c1
    refine lv_iload_n hx hb dX8_refusal_10 rfl (lv_at hl 1 rfl) ?_
    refine lv_if_lt (tgt := 29) hx hb dX8_refusal_11 (by decide) (fun c3 => ?_) (fun c4 => ?_)
    · have hw := hw.1 c3
      refine lv_ldc (v := -2000000001) hx hb hown (hts (.constant RX8 46 (-2000000001)) (by decide +kernel)) dX8_refusal_29 ?_
      exact x_iret (w1 := fun (u : Unit) => (wld_X8_refusal cI cJ cZ h_p0 ad_p0 ad_p0_nodes p0_made p0_endlessNode p0_endlessBy p0_nodes_width p0_nodes_size)) hx hb hr hlocks () hw hP hD hS dX8_refusal_31
    · have hw := hw.2 c4
      refine lv_iload_n hx hb dX8_refusal_14 rfl (lv_at hl 1 rfl) ?_
      refine lv_aload_n hx hb dX8_refusal_15 rfl (lv_at hl 0 rfl) ?_
      refine va_get (D := (dC, dI)) (ci := 8) (v := .ref (ad_p0 0)) (C := RX8) (T := TX8) (N := 6) hx hb hts iX8 hown hK hP 0 rfl rfl 0 (by decide) (hts (.fieldLink RX8 14 "NetHouse$Tree" "nodes" "LNetHouse$Markings;") (by decide +kernel)) (fun _ h9 => h9) rfl dX8_refusal_16 ?_
      refine va_get (D := (dC, dI)) (ci := 4) (v := .int p0_nodes_size) (C := RX4) (T := TX4) (N := 7) hx hb hts iX4 hown hK hP 1 rfl rfl 6 (by decide) (hts (.fieldLink RX8 43 "NetHouse$Markings" "size" "I") (by decide +kernel)) (fun _ h9 => h9) rfl dX8_refusal_19 ?_
      refine lv_icmp_ge (tgt := 29) hx hb dX8_refusal_22 (by decide) (fun c5 => ?_) (fun c6 => ?_)
      · have hw := hw.1 c5
        refine lv_ldc (v := -2000000001) hx hb hown (hts (.constant RX8 46 (-2000000001)) (by decide +kernel)) dX8_refusal_29 ?_
        exact x_iret (w1 := fun (u : Unit) => (wld_X8_refusal cI cJ cZ h_p0 ad_p0 ad_p0_nodes p0_made p0_endlessNode p0_endlessBy p0_nodes_width p0_nodes_size)) hx hb hr hlocks () hw hP hD hS dX8_refusal_31
      · have hw := hw.2 c6
        refine lv_iconst (v := 0) hx hb dX8_refusal_25 (by decide) ?_
        refine lv_goto (tgt := 31) hx hb dX8_refusal_26 (by decide) ?_
        exact x_iret (w1 := fun (u : Unit) => (wld_X8_refusal cI cJ cZ h_p0 ad_p0 ad_p0_nodes p0_made p0_endlessNode p0_endlessBy p0_nodes_width p0_nodes_size)) hx hb hr hlocks () hw hP hD hS dX8_refusal_31
  · have hw := hw.2 c2
    refine lv_ldc (v := -2000000002) hx hb hown (hts (.constant RX8 42 (-2000000002)) (by decide +kernel)) dX8_refusal_7 ?_
    exact x_iret (w1 := fun (u : Unit) => (wld_X8_refusal cI cJ cZ h_p0 ad_p0 ad_p0_nodes p0_made p0_endlessNode p0_endlessBy p0_nodes_width p0_nodes_size)) hx hb hr hlocks () hw hP hD hS dX8_refusal_9
abbrev wld_X8_addChild (cI cJ cZ : ClassId) (h_p0 : Nat) (ad_p0 : Nat → Nat) (ad_p0_child : Nat → Nat) (ad_p0_nodes : Nat → Nat) (n_p0_nodes : Nat) (p0_made : Int32) (p0_endlessNode : Int32) (p0_endlessBy : Int32) (p0_nodes_width : Int32) (p0_nodes_size : Int32) (p0_child_many : Nat → Int32) (p0_leaves : Nat → Int32) (p0_nodes_by : Nat → Int32) (p0_nodes_cells : Nat → Int32) (p0_nodes_former : Nat → Int32) (p0_nodes_heads : Nat → Int32) (p0_nodes_links : Nat → Int32) : va_W := [(h_p0, .inr (8, [.ref (ad_p0 0), .ref (ad_p0 1), .ref (ad_p0 2), .int p0_made, .int p0_endlessNode, .int p0_endlessBy])), ((ad_p0 1), .inr (3, [.ref (ad_p0_child 0), .ref (ad_p0_child 1)])), ((ad_p0_child 0), .inl (cI, 16, .inl p0_child_many)), ((ad_p0 2), .inl (cI, 2000, .inl p0_leaves)), ((ad_p0 0), .inr (4, [.ref (ad_p0_nodes 0), .ref (ad_p0_nodes 1), .ref (ad_p0_nodes 2), .ref (ad_p0_nodes 3), .ref (ad_p0_nodes 4), .int p0_nodes_width, .int p0_nodes_size])), ((ad_p0_nodes 2), .inl (cI, n_p0_nodes, .inl p0_nodes_by)), ((ad_p0_nodes 0), .inl (cI, (n_p0_nodes * 16), .inl p0_nodes_cells)), ((ad_p0_nodes 1), .inl (cI, n_p0_nodes, .inl p0_nodes_former)), ((ad_p0_nodes 4), .inl (cI, 1024, .inl p0_nodes_heads)), ((ad_p0_nodes 3), .inl (cI, n_p0_nodes, .inl p0_nodes_links))]
abbrev q_X8_addChild (dC : Nat → ClassId) (dI : Nat → Nat → Nat) (cI cJ cZ : ClassId) (h_p0 : Nat) (ad_p0 : Nat → Nat) (ad_p0_child : Nat → Nat) (ad_p0_nodes : Nat → Nat) (n_p0_nodes : Nat) (p0_made : Int32) (p0_endlessNode : Int32) (p0_endlessBy : Int32) (p0_nodes_width : Int32) (p0_nodes_size : Int32) (p0_child_many : Nat → Int32) (p0_leaves : Nat → Int32) (p0_nodes_by : Nat → Int32) (p0_nodes_cells : Nat → Int32) (p0_nodes_former : Nat → Int32) (p0_nodes_heads : Nat → Int32) (p0_nodes_links : Nat → Int32) (post : (Int32) → (Nat → Int32) → (Nat → Int32) → (Nat → Int32) → (Nat → Int32) → (Nat → Int32) → (Nat → Int32) → Prop) (A : Nat → Prop) : Array Value → State → Outcome → State → Prop := va_Qv (fun (u : (Int32) × (Nat → Int32) × (Nat → Int32) × (Nat → Int32) × (Nat → Int32) × (Nat → Int32) × (Nat → Int32)) => post (u.1) (u.2.1) (u.2.2.1) (u.2.2.2.1) (u.2.2.2.2.1) (u.2.2.2.2.2.1) (u.2.2.2.2.2.2)) (fun (u : (Int32) × (Nat → Int32) × (Nat → Int32) × (Nat → Int32) × (Nat → Int32) × (Nat → Int32) × (Nat → Int32)) t => xPost (dC, dI) A (wld_X8_addChild cI cJ cZ h_p0 ad_p0 ad_p0_child ad_p0_nodes n_p0_nodes p0_made p0_endlessNode p0_endlessBy p0_nodes_width (u.1) p0_child_many (u.2.1) (u.2.2.1) (u.2.2.2.1) (u.2.2.2.2.1) (u.2.2.2.2.2.1) (u.2.2.2.2.2.2)) t) A
def w_X8_addChild (n_p0_nodes : Nat) (p0_nodes_size : Int32) (p0_nodes_width : Int32) (p0_child_many : Nat → Int32) (p0_leaves : Nat → Int32) (p0_nodes_by : Nat → Int32) (p0_nodes_cells : Nat → Int32) (p0_nodes_former : Nat → Int32) (p0_nodes_heads : Nat → Int32) (p0_nodes_links : Nat → Int32) (a1 : Int32) (a2 : Int32) (post : (Int32) → (Nat → Int32) → (Nat → Int32) → (Nat → Int32) → (Nat → Int32) → (Nat → Int32) → (Nat → Int32) → Prop) : Prop :=
  w_X4_indexOf n_p0_nodes p0_nodes_size p0_nodes_width p0_nodes_cells p0_nodes_heads p0_nodes_links p0_child_many (fun r1 =>
  (r1 < 0 →
    vp_in p0_nodes_size 2000 ∧
    w_X4_add n_p0_nodes p0_nodes_size p0_nodes_width p0_nodes_by p0_nodes_cells p0_nodes_former p0_nodes_heads p0_nodes_links p0_child_many a1 a2 (fun y4 y5 y6 y7 y8 y9 =>
    (post y4 (upd p0_leaves p0_nodes_size.toNatClampNeg (0 : Int32)) y5 y6 y7 y8 y9))) ∧
  (¬ r1 < 0 →
    vp_in p0_nodes_size 2000 ∧
    w_X4_add n_p0_nodes p0_nodes_size p0_nodes_width p0_nodes_by p0_nodes_cells p0_nodes_former p0_nodes_heads p0_nodes_links p0_child_many a1 a2 (fun y10 y11 y12 y13 y14 y15 =>
    (post y10 (upd p0_leaves p0_nodes_size.toNatClampNeg (1 : Int32)) y11 y12 y13 y14 y15))))
set_option maxHeartbeats 4000000 in
set_option maxRecDepth 100000 in
theorem c_X8_addChild {l : Launch} {dC : Nat → ClassId} {dI : Nat → Nat → Nat} {sz : Nat} {cI cJ cZ : ClassId} {h_p0 : Nat} {ad_p0 : Nat → Nat} {ad_p0_child : Nat → Nat} {ad_p0_nodes : Nat → Nat} {n_p0_nodes : Nat} {p0_made : Int32} {p0_endlessNode : Int32} {p0_endlessBy : Int32} {p0_nodes_width : Int32} {p0_nodes_size : Int32} {p0_child_many : Nat → Int32} {p0_leaves : Nat → Int32} {p0_nodes_by : Nat → Int32} {p0_nodes_cells : Nat → Int32} {p0_nodes_former : Nat → Int32} {p0_nodes_heads : Nat → Int32} {p0_nodes_links : Nat → Int32} {a1 : Int32} {a2 : Int32} {post : (Int32) → (Nat → Int32) → (Nat → Int32) → (Nat → Int32) → (Nat → Int32) → (Nat → Int32) → (Nat → Int32) → Prop} (hw : w_X8_addChild n_p0_nodes p0_nodes_size p0_nodes_width p0_child_many p0_leaves p0_nodes_by p0_nodes_cells p0_nodes_former p0_nodes_heads p0_nodes_links a1 a2 post) : Met l yX8_addChild wsX8_addChild ({ frames := 2, cells := 0, slots := 0, locals := 54 }) (va_Pc [.ref h_p0, .int a1, .int a2] (xPre (dC, dI) cI cJ cZ (wld_X8_addChild cI cJ cZ h_p0 ad_p0 ad_p0_child ad_p0_nodes n_p0_nodes p0_made p0_endlessNode p0_endlessBy p0_nodes_width p0_nodes_size p0_child_many p0_leaves p0_nodes_by p0_nodes_cells p0_nodes_former p0_nodes_heads p0_nodes_links) sz)) (q_X8_addChild dC dI cI cJ cZ h_p0 ad_p0 ad_p0_child ad_p0_nodes n_p0_nodes p0_made p0_endlessNode p0_endlessBy p0_nodes_width p0_nodes_size p0_child_many p0_leaves p0_nodes_by p0_nodes_cells p0_nodes_former p0_nodes_heads p0_nodes_links post (va_A (wld_X8_addChild cI cJ cZ h_p0 ad_p0 ad_p0_child ad_p0_nodes n_p0_nodes p0_made p0_endlessNode p0_endlessBy p0_nodes_width p0_nodes_size p0_child_many p0_leaves p0_nodes_by p0_nodes_cells p0_nodes_former p0_nodes_heads p0_nodes_links) sz)) 0 0 (va_A (wld_X8_addChild cI cJ cZ h_p0 ad_p0 ad_p0_child ad_p0_nodes n_p0_nodes p0_made p0_endlessNode p0_endlessBy p0_nodes_width p0_nodes_size p0_child_many p0_leaves p0_nodes_by p0_nodes_cells p0_nodes_former p0_nodes_heads p0_nodes_links) sz) := by
  refine x_met (cc := cX8_addChild) (maxL := 3) (ret := none) (own := RX8) (Qc := fun A => (q_X8_addChild dC dI cI cJ cZ h_p0 ad_p0 ad_p0_child ad_p0_nodes n_p0_nodes p0_made p0_endlessNode p0_endlessBy p0_nodes_width p0_nodes_size p0_child_many p0_leaves p0_nodes_by p0_nodes_cells p0_nodes_former p0_nodes_heads p0_nodes_links post A)) (by decide) rfl rfl (Nat.le_of_ble_eq_true rfl) ?_
  intro p e s m args below meth c A ls E0 hP hD hS hl
  obtain ⟨hx, hb, hr, hml, hown, hts, hlocks, hK, hA, n1, n2⟩ := id E0
  have iX3 : ∀ w ∈ u_ws RX3 TX3 2, w ∈ wsX8_addChild := fun w h => List.mem_cons_of_mem _ (List.mem_append_right _ h)
  have iX4 : ∀ w ∈ u_ws RX4 TX4 7, w ∈ wsX8_addChild := fun w h => List.mem_cons_of_mem _ (List.mem_append_left _ (List.mem_append_right _ h))
  have iX8 : ∀ w ∈ u_ws RX8 TX8 6, w ∈ wsX8_addChild := fun w h => List.mem_cons_of_mem _ (List.mem_append_left _ (List.mem_append_left _ (List.mem_append_right _ h)))
  have hS0 := hS
  have hl : lv_has ls 3 [(0, .ref h_p0), (1, .int a1), (2, .int a2)] := hl
  unfold w_X8_addChild at hw
  obtain ⟨H, hH⟩ : ∃ H, H = s.heap := ⟨_, rfl⟩
  have hS : va_S A s.heap H [] := by rw [hH]; exact hS
  have hP : va_P (dC, dI) vwCl (wld_X8_addChild cI cJ cZ h_p0 ad_p0 ad_p0_child ad_p0_nodes n_p0_nodes p0_made p0_endlessNode p0_endlessBy p0_nodes_width p0_nodes_size p0_child_many p0_leaves p0_nodes_by p0_nodes_cells p0_nodes_former p0_nodes_heads p0_nodes_links) H := by rw [hH]; exact hP
  suffices hG : W p l e ({ frames := 2, cells := 0, slots := 0, locals := 54 }) s m args below meth c H [] 0 0 (MQ below (q_X8_addChild dC dI cI cJ cZ h_p0 ad_p0 ad_p0_child ad_p0_nodes n_p0_nodes p0_made p0_endlessNode p0_endlessBy p0_nodes_width p0_nodes_size p0_child_many p0_leaves p0_nodes_by p0_nodes_cells p0_nodes_former p0_nodes_heads p0_nodes_links post A) args s 0 0 A) (F0 m 0 ls []) by rw [hH] at hG; exact hG
  clear hH
  refine lv_aload_n hx hb dX8_addChild_0 rfl (lv_at hl 0 rfl) ?_
  refine va_get (D := (dC, dI)) (ci := 8) (v := .ref (ad_p0 2)) (C := RX8) (T := TX8) (N := 6) hx hb hts iX8 hown hK hP 0 rfl rfl 2 (by decide) (hts (.fieldLink RX8 27 "NetHouse$Tree" "leaves" "[I") (by decide +kernel)) (fun _ h9 => h9) rfl dX8_addChild_1 ?_
  refine lv_aload_n hx hb dX8_addChild_4 rfl (lv_at hl 0 rfl) ?_
  refine va_get (D := (dC, dI)) (ci := 8) (v := .ref (ad_p0 0)) (C := RX8) (T := TX8) (N := 6) hx hb hts iX8 hown hK hP 0 rfl rfl 0 (by decide) (hts (.fieldLink RX8 14 "NetHouse$Tree" "nodes" "LNetHouse$Markings;") (by decide +kernel)) (fun _ h9 => h9) rfl dX8_addChild_5 ?_
  refine va_get (D := (dC, dI)) (ci := 4) (v := .int p0_nodes_size) (C := RX4) (T := TX4) (N := 7) hx hb hts iX4 hown hK hP 4 rfl rfl 6 (by decide) (hts (.fieldLink RX8 43 "NetHouse$Markings" "size" "I") (by decide +kernel)) (fun _ h9 => h9) rfl dX8_addChild_8 ?_
  refine lv_aload_n hx hb dX8_addChild_11 rfl (lv_at hl 0 rfl) ?_
  refine va_get (D := (dC, dI)) (ci := 8) (v := .ref (ad_p0 0)) (C := RX8) (T := TX8) (N := 6) hx hb hts iX8 hown hK hP 0 rfl rfl 0 (by decide) (hts (.fieldLink RX8 14 "NetHouse$Tree" "nodes" "LNetHouse$Markings;") (by decide +kernel)) (fun _ h9 => h9) rfl dX8_addChild_12 ?_
  refine lv_aload_n hx hb dX8_addChild_15 rfl (lv_at hl 0 rfl) ?_
  refine va_get (D := (dC, dI)) (ci := 8) (v := .ref (ad_p0 1)) (C := RX8) (T := TX8) (N := 6) hx hb hts iX8 hown hK hP 0 rfl rfl 1 (by decide) (hts (.fieldLink RX8 23 "NetHouse$Tree" "child" "LNetHouse$Holding;") (by decide +kernel)) (fun _ h9 => h9) rfl dX8_addChild_16 ?_
  obtain ⟨hPc, hDc⟩ := x_sub (wc := (wld_X4_indexOf cI cJ cZ (ad_p0 0) (ad_p0 1) ad_p0_nodes ad_p0_child n_p0_nodes p0_nodes_width p0_nodes_size p0_nodes_cells p0_nodes_heads p0_nodes_links p0_child_many)) hP hD [4, 6, 8, 9, 1, 2] (n := 10) rfl rfl (by decide +kernel)
  refine x_calli (ws' := fun (u : Unit) => (wld_X8_addChild cI cJ cZ h_p0 ad_p0 ad_p0_child ad_p0_nodes n_p0_nodes p0_made p0_endlessNode p0_endlessBy p0_nodes_width p0_nodes_size p0_child_many p0_leaves p0_nodes_by p0_nodes_cells p0_nodes_former p0_nodes_heads p0_nodes_links)) hP hD hS hA [4, 6, 8, 9, 1, 2] [0, 3, 5, 7] [0, 8, 9, 1, 4, 2, 5, 3, 6, 7] (n := 10) (k := 6) rfl (fun _ => rfl) rfl (by decide +kernel) (fun _ => rfl) (va_runV (As := [.ref (ad_p0 1)]) (rest := [.int p0_nodes_size, .ref (ad_p0 2)]) ⟨hx, hb, hml, hown, hts⟩ (c_X4_indexOf (l := l) (dC := dC) (dI := dI) (cI := cI) (cJ := cJ) (cZ := cZ) (sz := H.size) (h_p0 := (ad_p0 0)) (h_p1 := (ad_p0 1)) (ad_p0 := ad_p0_nodes) (ad_p1 := ad_p0_child) (n_p0 := n_p0_nodes) (p0_width := p0_nodes_width) (p0_size := p0_nodes_size) (p0_cells := p0_nodes_cells) (p0_heads := p0_nodes_heads) (p0_links := p0_nodes_links) (p1_many := p0_child_many) hw) (cwV 1 hts gX8_addChild_X4_indexOf rfl rfl rfl (by decide +kernel) ⟨Nat.le_of_ble_eq_true rfl, Nat.le_of_ble_eq_true rfl⟩) ⟨xPre_blind, va_recv hK hP (ci := 4) (q0 := 4) rfl rfl, xPre_at hK hPc hDc n1 n2⟩ rfl rfl hl.1 rfl (lv_room (Nat.le_of_ble_eq_true rfl)) dX8_addChild_19 ⟨Nat.zero_le _, Nat.zero_le _⟩) (fun r1 u H locs hw hP hD hS => ?_)
  try dsimp only at hw
  have hP : va_P (dC, dI) vwCl (wld_X8_addChild cI cJ cZ h_p0 ad_p0 ad_p0_child ad_p0_nodes n_p0_nodes p0_made p0_endlessNode p0_endlessBy p0_nodes_width p0_nodes_size p0_child_many p0_leaves p0_nodes_by p0_nodes_cells p0_nodes_former p0_nodes_heads p0_nodes_links) H := hP
  have hD : va_D A (wld_X8_addChild cI cJ cZ h_p0 ad_p0 ad_p0_child ad_p0_nodes n_p0_nodes p0_made p0_endlessNode p0_endlessBy p0_nodes_width p0_nodes_size p0_child_many p0_leaves p0_nodes_by p0_nodes_cells p0_nodes_former p0_nodes_heads p0_nodes_links) := hD
  refine lv_if_lt (tgt := 29) hx hb dX8_addChild_22 (by decide) (fun c2 => ?_) (fun c3 => ?_)
  · have hw := hw.1 c2
    refine lv_iconst (v := 0) hx hb dX8_addChild_29 (by decide) ?_
    refine va_iast hx hb hK hP hD hS 3 0 rfl rfl hw.1 dX8_addChild_30 (fun H locs hP hD hS => ?_)
    have hw := hw.2
    have hP : va_P (dC, dI) vwCl (wld_X8_addChild cI cJ cZ h_p0 ad_p0 ad_p0_child ad_p0_nodes n_p0_nodes p0_made p0_endlessNode p0_endlessBy p0_nodes_width p0_nodes_size p0_child_many (upd p0_leaves p0_nodes_size.toNatClampNeg (0 : Int32)) p0_nodes_by p0_nodes_cells p0_nodes_former p0_nodes_heads p0_nodes_links) H := hP
    have hD : va_D A (wld_X8_addChild cI cJ cZ h_p0 ad_p0 ad_p0_child ad_p0_nodes n_p0_nodes p0_made p0_endlessNode p0_endlessBy p0_nodes_width p0_nodes_size p0_child_many (upd p0_leaves p0_nodes_size.toNatClampNeg (0 : Int32)) p0_nodes_by p0_nodes_cells p0_nodes_former p0_nodes_heads p0_nodes_links) := hD
    refine lv_aload_n hx hb dX8_addChild_31 rfl (lv_at hl 0 rfl) ?_
    refine va_get (D := (dC, dI)) (ci := 8) (v := .ref (ad_p0 0)) (C := RX8) (T := TX8) (N := 6) hx hb hts iX8 hown hK hP 0 rfl rfl 0 (by decide) (hts (.fieldLink RX8 14 "NetHouse$Tree" "nodes" "LNetHouse$Markings;") (by decide +kernel)) (fun _ h9 => h9) rfl dX8_addChild_32 ?_
    refine lv_aload_n hx hb dX8_addChild_35 rfl (lv_at hl 0 rfl) ?_
    refine va_get (D := (dC, dI)) (ci := 8) (v := .ref (ad_p0 1)) (C := RX8) (T := TX8) (N := 6) hx hb hts iX8 hown hK hP 0 rfl rfl 1 (by decide) (hts (.fieldLink RX8 23 "NetHouse$Tree" "child" "LNetHouse$Holding;") (by decide +kernel)) (fun _ h9 => h9) rfl dX8_addChild_36 ?_
    refine lv_iload_n hx hb dX8_addChild_39 rfl (lv_at hl 1 rfl) ?_
    refine lv_iload_n hx hb dX8_addChild_40 rfl (lv_at hl 2 rfl) ?_
    obtain ⟨hPc, hDc⟩ := x_sub (wc := (wld_X4_add cI cJ cZ (ad_p0 0) (ad_p0 1) ad_p0_nodes ad_p0_child n_p0_nodes p0_nodes_width p0_nodes_size p0_nodes_by p0_nodes_cells p0_nodes_former p0_nodes_heads p0_nodes_links p0_child_many)) hP hD [4, 5, 6, 7, 8, 9, 1, 2] (n := 10) rfl rfl (by decide +kernel)
    refine x_callv (ws' := fun (u : (Int32) × (Nat → Int32) × (Nat → Int32) × (Nat → Int32) × (Nat → Int32) × (Nat → Int32)) => (wld_X8_addChild cI cJ cZ h_p0 ad_p0 ad_p0_child ad_p0_nodes n_p0_nodes p0_made p0_endlessNode p0_endlessBy p0_nodes_width (u.1) p0_child_many (upd p0_leaves p0_nodes_size.toNatClampNeg (0 : Int32)) (u.2.1) (u.2.2.1) (u.2.2.2.1) (u.2.2.2.2.1) (u.2.2.2.2.2))) hP hD hS hA [4, 5, 6, 7, 8, 9, 1, 2] [0, 3] [0, 8, 9, 1, 2, 3, 4, 5, 6, 7] (n := 10) (k := 8) rfl (fun _ => rfl) rfl (by decide +kernel) (fun _ => rfl) (va_runV (As := [.ref (ad_p0 1), .int a1, .int a2]) (rest := []) ⟨hx, hb, hml, hown, hts⟩ (c_X4_add (l := l) (dC := dC) (dI := dI) (cI := cI) (cJ := cJ) (cZ := cZ) (sz := H.size) (h_p0 := (ad_p0 0)) (h_p1 := (ad_p0 1)) (ad_p0 := ad_p0_nodes) (ad_p1 := ad_p0_child) (n_p0 := n_p0_nodes) (p0_width := p0_nodes_width) (p0_size := p0_nodes_size) (p0_by := p0_nodes_by) (p0_cells := p0_nodes_cells) (p0_former := p0_nodes_former) (p0_heads := p0_nodes_heads) (p0_links := p0_nodes_links) (p1_many := p0_child_many) hw) (cwV 3 hts gX8_addChild_X4_add rfl rfl rfl (by decide +kernel) ⟨Nat.le_of_ble_eq_true rfl, Nat.le_of_ble_eq_true rfl⟩) ⟨xPre_blind, va_recv hK hP (ci := 4) (q0 := 4) rfl rfl, xPre_at hK hPc hDc n1 n2⟩ rfl rfl hl.1 rfl (lv_room (Nat.le_of_ble_eq_true rfl)) dX8_addChild_41 ⟨Nat.zero_le _, Nat.zero_le _⟩) (fun u H locs hw hP hD hS => ?_)
    obtain ⟨y4, y5, y6, y7, y8, y9⟩ := u
    try dsimp only at hw
    have hP : va_P (dC, dI) vwCl (wld_X8_addChild cI cJ cZ h_p0 ad_p0 ad_p0_child ad_p0_nodes n_p0_nodes p0_made p0_endlessNode p0_endlessBy p0_nodes_width y4 p0_child_many (upd p0_leaves p0_nodes_size.toNatClampNeg (0 : Int32)) y5 y6 y7 y8 y9) H := hP
    have hD : va_D A (wld_X8_addChild cI cJ cZ h_p0 ad_p0 ad_p0_child ad_p0_nodes n_p0_nodes p0_made p0_endlessNode p0_endlessBy p0_nodes_width y4 p0_child_many (upd p0_leaves p0_nodes_size.toNatClampNeg (0 : Int32)) y5 y6 y7 y8 y9) := hD
    exact x_vret (w1 := fun (u : (Int32) × (Nat → Int32) × (Nat → Int32) × (Nat → Int32) × (Nat → Int32) × (Nat → Int32) × (Nat → Int32)) => (wld_X8_addChild cI cJ cZ h_p0 ad_p0 ad_p0_child ad_p0_nodes n_p0_nodes p0_made p0_endlessNode p0_endlessBy p0_nodes_width (u.1) p0_child_many (u.2.1) (u.2.2.1) (u.2.2.2.1) (u.2.2.2.2.1) (u.2.2.2.2.2.1) (u.2.2.2.2.2.2))) hx hb hr hlocks (y4, (upd p0_leaves p0_nodes_size.toNatClampNeg (0 : Int32)), y5, y6, y7, y8, y9) hw hP hD hS dX8_addChild_44
  · have hw := hw.2 c3
    refine lv_iconst (v := 1) hx hb dX8_addChild_25 (by decide) ?_
    refine lv_goto (tgt := 30) hx hb dX8_addChild_26 (by decide) ?_
    refine va_iast hx hb hK hP hD hS 3 0 rfl rfl hw.1 dX8_addChild_30 (fun H locs hP hD hS => ?_)
    have hw := hw.2
    have hP : va_P (dC, dI) vwCl (wld_X8_addChild cI cJ cZ h_p0 ad_p0 ad_p0_child ad_p0_nodes n_p0_nodes p0_made p0_endlessNode p0_endlessBy p0_nodes_width p0_nodes_size p0_child_many (upd p0_leaves p0_nodes_size.toNatClampNeg (1 : Int32)) p0_nodes_by p0_nodes_cells p0_nodes_former p0_nodes_heads p0_nodes_links) H := hP
    have hD : va_D A (wld_X8_addChild cI cJ cZ h_p0 ad_p0 ad_p0_child ad_p0_nodes n_p0_nodes p0_made p0_endlessNode p0_endlessBy p0_nodes_width p0_nodes_size p0_child_many (upd p0_leaves p0_nodes_size.toNatClampNeg (1 : Int32)) p0_nodes_by p0_nodes_cells p0_nodes_former p0_nodes_heads p0_nodes_links) := hD
    refine lv_aload_n hx hb dX8_addChild_31 rfl (lv_at hl 0 rfl) ?_
    refine va_get (D := (dC, dI)) (ci := 8) (v := .ref (ad_p0 0)) (C := RX8) (T := TX8) (N := 6) hx hb hts iX8 hown hK hP 0 rfl rfl 0 (by decide) (hts (.fieldLink RX8 14 "NetHouse$Tree" "nodes" "LNetHouse$Markings;") (by decide +kernel)) (fun _ h9 => h9) rfl dX8_addChild_32 ?_
    refine lv_aload_n hx hb dX8_addChild_35 rfl (lv_at hl 0 rfl) ?_
    refine va_get (D := (dC, dI)) (ci := 8) (v := .ref (ad_p0 1)) (C := RX8) (T := TX8) (N := 6) hx hb hts iX8 hown hK hP 0 rfl rfl 1 (by decide) (hts (.fieldLink RX8 23 "NetHouse$Tree" "child" "LNetHouse$Holding;") (by decide +kernel)) (fun _ h9 => h9) rfl dX8_addChild_36 ?_
    refine lv_iload_n hx hb dX8_addChild_39 rfl (lv_at hl 1 rfl) ?_
    refine lv_iload_n hx hb dX8_addChild_40 rfl (lv_at hl 2 rfl) ?_
    obtain ⟨hPc, hDc⟩ := x_sub (wc := (wld_X4_add cI cJ cZ (ad_p0 0) (ad_p0 1) ad_p0_nodes ad_p0_child n_p0_nodes p0_nodes_width p0_nodes_size p0_nodes_by p0_nodes_cells p0_nodes_former p0_nodes_heads p0_nodes_links p0_child_many)) hP hD [4, 5, 6, 7, 8, 9, 1, 2] (n := 10) rfl rfl (by decide +kernel)
    refine x_callv (ws' := fun (u : (Int32) × (Nat → Int32) × (Nat → Int32) × (Nat → Int32) × (Nat → Int32) × (Nat → Int32)) => (wld_X8_addChild cI cJ cZ h_p0 ad_p0 ad_p0_child ad_p0_nodes n_p0_nodes p0_made p0_endlessNode p0_endlessBy p0_nodes_width (u.1) p0_child_many (upd p0_leaves p0_nodes_size.toNatClampNeg (1 : Int32)) (u.2.1) (u.2.2.1) (u.2.2.2.1) (u.2.2.2.2.1) (u.2.2.2.2.2))) hP hD hS hA [4, 5, 6, 7, 8, 9, 1, 2] [0, 3] [0, 8, 9, 1, 2, 3, 4, 5, 6, 7] (n := 10) (k := 8) rfl (fun _ => rfl) rfl (by decide +kernel) (fun _ => rfl) (va_runV (As := [.ref (ad_p0 1), .int a1, .int a2]) (rest := []) ⟨hx, hb, hml, hown, hts⟩ (c_X4_add (l := l) (dC := dC) (dI := dI) (cI := cI) (cJ := cJ) (cZ := cZ) (sz := H.size) (h_p0 := (ad_p0 0)) (h_p1 := (ad_p0 1)) (ad_p0 := ad_p0_nodes) (ad_p1 := ad_p0_child) (n_p0 := n_p0_nodes) (p0_width := p0_nodes_width) (p0_size := p0_nodes_size) (p0_by := p0_nodes_by) (p0_cells := p0_nodes_cells) (p0_former := p0_nodes_former) (p0_heads := p0_nodes_heads) (p0_links := p0_nodes_links) (p1_many := p0_child_many) hw) (cwV 3 hts gX8_addChild_X4_add rfl rfl rfl (by decide +kernel) ⟨Nat.le_of_ble_eq_true rfl, Nat.le_of_ble_eq_true rfl⟩) ⟨xPre_blind, va_recv hK hP (ci := 4) (q0 := 4) rfl rfl, xPre_at hK hPc hDc n1 n2⟩ rfl rfl hl.1 rfl (lv_room (Nat.le_of_ble_eq_true rfl)) dX8_addChild_41 ⟨Nat.zero_le _, Nat.zero_le _⟩) (fun u H locs hw hP hD hS => ?_)
    obtain ⟨y10, y11, y12, y13, y14, y15⟩ := u
    try dsimp only at hw
    have hP : va_P (dC, dI) vwCl (wld_X8_addChild cI cJ cZ h_p0 ad_p0 ad_p0_child ad_p0_nodes n_p0_nodes p0_made p0_endlessNode p0_endlessBy p0_nodes_width y10 p0_child_many (upd p0_leaves p0_nodes_size.toNatClampNeg (1 : Int32)) y11 y12 y13 y14 y15) H := hP
    have hD : va_D A (wld_X8_addChild cI cJ cZ h_p0 ad_p0 ad_p0_child ad_p0_nodes n_p0_nodes p0_made p0_endlessNode p0_endlessBy p0_nodes_width y10 p0_child_many (upd p0_leaves p0_nodes_size.toNatClampNeg (1 : Int32)) y11 y12 y13 y14 y15) := hD
    exact x_vret (w1 := fun (u : (Int32) × (Nat → Int32) × (Nat → Int32) × (Nat → Int32) × (Nat → Int32) × (Nat → Int32) × (Nat → Int32)) => (wld_X8_addChild cI cJ cZ h_p0 ad_p0 ad_p0_child ad_p0_nodes n_p0_nodes p0_made p0_endlessNode p0_endlessBy p0_nodes_width (u.1) p0_child_many (u.2.1) (u.2.2.1) (u.2.2.2.1) (u.2.2.2.2.1) (u.2.2.2.2.2.1) (u.2.2.2.2.2.2))) hx hb hr hlocks (y10, (upd p0_leaves p0_nodes_size.toNatClampNeg (1 : Int32)), y11, y12, y13, y14, y15) hw hP hD hS dX8_addChild_44
abbrev wld_X8_stretch (cI cJ cZ : ClassId) (h_p0 : Nat) (ad_p0 : Nat → Nat) (ad_p0_child : Nat → Nat) (ad_p0_nodes : Nat → Nat) (n_p0_nodes : Nat) (p0_made : Int32) (p0_endlessNode : Int32) (p0_endlessBy : Int32) (p0_nodes_width : Int32) (p0_nodes_size : Int32) (p0_child_many : Nat → Int32) (p0_nodes_cells : Nat → Int32) : va_W := [(h_p0, .inr (8, [.ref (ad_p0 0), .ref (ad_p0 1), .ref (ad_p0 2), .int p0_made, .int p0_endlessNode, .int p0_endlessBy])), ((ad_p0 1), .inr (3, [.ref (ad_p0_child 0), .ref (ad_p0_child 1)])), ((ad_p0_child 0), .inl (cI, 16, .inl p0_child_many)), ((ad_p0 0), .inr (4, [.ref (ad_p0_nodes 0), .ref (ad_p0_nodes 1), .ref (ad_p0_nodes 2), .ref (ad_p0_nodes 3), .ref (ad_p0_nodes 4), .int p0_nodes_width, .int p0_nodes_size])), ((ad_p0_nodes 0), .inl (cI, (n_p0_nodes * 16), .inl p0_nodes_cells))]
abbrev q_X8_stretch (dC : Nat → ClassId) (dI : Nat → Nat → Nat) (cI cJ cZ : ClassId) (h_p0 : Nat) (ad_p0 : Nat → Nat) (ad_p0_child : Nat → Nat) (ad_p0_nodes : Nat → Nat) (n_p0_nodes : Nat) (p0_made : Int32) (p0_endlessNode : Int32) (p0_endlessBy : Int32) (p0_nodes_width : Int32) (p0_nodes_size : Int32) (p0_child_many : Nat → Int32) (p0_nodes_cells : Nat → Int32) (post : Int32 → (Nat → Int32) → Prop) (A : Nat → Prop) : Array Value → State → Outcome → State → Prop := va_Qi (fun r (u : (Nat → Int32)) => post r u) (fun (u : (Nat → Int32)) t => xPost (dC, dI) A (wld_X8_stretch cI cJ cZ h_p0 ad_p0 ad_p0_child ad_p0_nodes n_p0_nodes p0_made p0_endlessNode p0_endlessBy p0_nodes_width p0_nodes_size u p0_nodes_cells) t) A
def w_X8_stretch_L4b (n_p0_nodes : Nat) (v1 : Int32) (p0_nodes_width : Int32) (p0_nodes_cells : Nat → Int32) (post : Int32 → (Nat → Int32) → Prop) (K : (Int32) → (Int32) → (Nat → Int32) → Prop) (rec : (Int32) → (Int32) → (Nat → Int32) → Prop) (v2 : Int32) (v3 : Int32) (p0_child_many : Nat → Int32) : Prop :=
    (p0_nodes_width ≤ v3 →
      K v2 v3 p0_child_many) ∧
    (¬ p0_nodes_width ≤ v3 →
      vp_in v3 16 ∧
      ((p0_child_many v3.toNatClampNeg) = (2147483647 : Int32) →
        ∀ x5 : Int32, x5 = v3 + (1 : Int32) →
        rec v2 x5 p0_child_many) ∧
      (¬ (p0_child_many v3.toNatClampNeg) = (2147483647 : Int32) →
        w_X4_cellAt n_p0_nodes p0_nodes_width p0_nodes_cells v1 v3 (fun r6 =>
        vp_in v3 16 ∧
        ((p0_child_many v3.toNatClampNeg) ≤ r6 →
          ∀ x9 : Int32, x9 = v3 + (1 : Int32) →
          rec v2 x9 p0_child_many) ∧
        (¬ (p0_child_many v3.toNatClampNeg) ≤ r6 →
          vp_in v3 16 ∧
          ∀ x10 : Int32, x10 = v3 + (1 : Int32) →
          rec (1 : Int32) x10 (upd p0_child_many v3.toNatClampNeg (2147483647 : Int32))))))
def w_X8_stretch_L4 (n_p0_nodes : Nat) (v1 : Int32) (p0_nodes_width : Int32) (p0_nodes_cells : Nat → Int32) (post : Int32 → (Nat → Int32) → Prop) (K : (Int32) → (Int32) → (Nat → Int32) → Prop) : Nat → (Int32) → (Int32) → (Nat → Int32) → Prop
  | 0, _, _, _ => False
  | n + 1, v2, v3, p0_child_many => w_X8_stretch_L4b n_p0_nodes v1 p0_nodes_width p0_nodes_cells post K (w_X8_stretch_L4 n_p0_nodes v1 p0_nodes_width p0_nodes_cells post K n) v2 v3 p0_child_many
def w_X8_stretch (n_p0_nodes : Nat) (p0_nodes_width : Int32) (p0_child_many : Nat → Int32) (p0_nodes_cells : Nat → Int32) (a1 : Int32) (post : Int32 → (Nat → Int32) → Prop) : Prop :=
  ∃ n : Nat, w_X8_stretch_L4 n_p0_nodes a1 p0_nodes_width p0_nodes_cells post (fun v12 v13 s14 =>
      v12 &&& 1 = v12 ∧
      (post v12 s14)) n (0 : Int32) (0 : Int32) p0_child_many
set_option maxHeartbeats 4000000 in
set_option maxRecDepth 100000 in
theorem c_X8_stretch_L4 {p : Program} {l : Launch} {e : Env} {s : State} {m : MethodId} {args : Array Value} {below : List Frame} {meth : Method} {c : Code} {dC : Nat → ClassId} {dI : Nat → Nat → Nat} {A : Nat → Prop} {cI cJ cZ : ClassId} {h_p0 : Nat} {ad_p0 : Nat → Nat} {ad_p0_child : Nat → Nat} {ad_p0_nodes : Nat → Nat} {n_p0_nodes : Nat} {p0_made : Int32} {p0_endlessNode : Int32} {p0_endlessBy : Int32} {p0_nodes_width : Int32} {p0_nodes_size : Int32} {p0_nodes_cells : Nat → Int32} {v1 : Int32} {z_p0_child_many : Nat → Int32} {post : Int32 → (Nat → Int32) → Prop} {K : (Int32) → (Int32) → (Nat → Int32) → Prop} (E0 : xEnv p s m args meth c cX8_stretch (some .boolean) 4 RX8 wsX8_stretch (dC, dI) cI cJ cZ A) (hk : ∀ (v2 : Int32) (v3 : Int32) (p0_child_many : Nat → Int32) (H : Heap) (locs : List Loc) (ls : Array Slot), K v2 v3 p0_child_many → va_P (dC, dI) vwCl (wld_X8_stretch cI cJ cZ h_p0 ad_p0 ad_p0_child ad_p0_nodes n_p0_nodes p0_made p0_endlessNode p0_endlessBy p0_nodes_width p0_nodes_size p0_child_many p0_nodes_cells) H → va_D A (wld_X8_stretch cI cJ cZ h_p0 ad_p0 ad_p0_child ad_p0_nodes n_p0_nodes p0_made p0_endlessNode p0_endlessBy p0_nodes_width p0_nodes_size p0_child_many p0_nodes_cells) → va_S A s.heap H locs → lv_has ls 4 [(2, .int v2)] → W p l e ({ frames := 1, cells := 0, slots := 0, locals := 22 }) s m args below meth c H locs 0 0 (MQ below (q_X8_stretch dC dI cI cJ cZ h_p0 ad_p0 ad_p0_child ad_p0_nodes n_p0_nodes p0_made p0_endlessNode p0_endlessBy p0_nodes_width p0_nodes_size z_p0_child_many p0_nodes_cells post A) args s 0 0 A) (F0 m 69 ls [])) : ∀ (n : Nat) (v2 : Int32) (v3 : Int32) (p0_child_many : Nat → Int32), w_X8_stretch_L4 n_p0_nodes v1 p0_nodes_width p0_nodes_cells post K n v2 v3 p0_child_many → ∀ (H : Heap) (locs : List Loc) (ls : Array Slot), va_P (dC, dI) vwCl (wld_X8_stretch cI cJ cZ h_p0 ad_p0 ad_p0_child ad_p0_nodes n_p0_nodes p0_made p0_endlessNode p0_endlessBy p0_nodes_width p0_nodes_size p0_child_many p0_nodes_cells) H → va_D A (wld_X8_stretch cI cJ cZ h_p0 ad_p0 ad_p0_child ad_p0_nodes n_p0_nodes p0_made p0_endlessNode p0_endlessBy p0_nodes_width p0_nodes_size p0_child_many p0_nodes_cells) → va_S A s.heap H locs → lv_has ls 4 [(0, .ref h_p0), (1, .int v1), (2, .int v2), (3, .int v3)] → W p l e ({ frames := 1, cells := 0, slots := 0, locals := 22 }) s m args below meth c H locs 0 0 (MQ below (q_X8_stretch dC dI cI cJ cZ h_p0 ad_p0 ad_p0_child ad_p0_nodes n_p0_nodes p0_made p0_endlessNode p0_endlessBy p0_nodes_width p0_nodes_size z_p0_child_many p0_nodes_cells post A) args s 0 0 A) (F0 m 4 ls []) := by
  obtain ⟨hx, hb, hr, hml, hown, hts, hlocks, hK, hA, n1, n2⟩ := id E0
  have iX3 : ∀ w ∈ u_ws RX3 TX3 2, w ∈ wsX8_stretch := fun w h => List.mem_cons_of_mem _ (List.mem_append_right _ h)
  have iX4 : ∀ w ∈ u_ws RX4 TX4 7, w ∈ wsX8_stretch := fun w h => List.mem_cons_of_mem _ (List.mem_append_left _ (List.mem_append_right _ h))
  have iX8 : ∀ w ∈ u_ws RX8 TX8 6, w ∈ wsX8_stretch := fun w h => List.mem_cons_of_mem _ (List.mem_append_left _ (List.mem_append_left _ (List.mem_append_right _ h)))
  intro n
  induction n with
  | zero => intro v2 v3 p0_child_many hw; exact hw.elim
  | succ n ih =>
    intro v2 v3 p0_child_many hw H locs ls hP hD hS hl
    have hw : w_X8_stretch_L4b n_p0_nodes v1 p0_nodes_width p0_nodes_cells post K (w_X8_stretch_L4 n_p0_nodes v1 p0_nodes_width p0_nodes_cells post K n) v2 v3 p0_child_many := hw
    unfold w_X8_stretch_L4b at hw
    refine lv_iload_n hx hb dX8_stretch_4 rfl (lv_at hl 3 rfl) ?_
    refine lv_aload_n hx hb dX8_stretch_5 rfl (lv_at hl 0 rfl) ?_
    refine va_get (D := (dC, dI)) (ci := 8) (v := .ref (ad_p0 0)) (C := RX8) (T := TX8) (N := 6) hx hb hts iX8 hown hK hP 0 rfl rfl 0 (by decide) (hts (.fieldLink RX8 14 "NetHouse$Tree" "nodes" "LNetHouse$Markings;") (by decide +kernel)) (fun _ h9 => h9) rfl dX8_stretch_6 ?_
    refine va_get (D := (dC, dI)) (ci := 4) (v := .int p0_nodes_width) (C := RX4) (T := TX4) (N := 7) hx hb hts iX4 hown hK hP 3 rfl rfl 5 (by decide) (hts (.fieldLink RX8 106 "NetHouse$Markings" "width" "I") (by decide +kernel)) (fun _ h9 => h9) rfl dX8_stretch_9 ?_
    refine lv_icmp_ge (tgt := 69) hx hb dX8_stretch_12 (by decide) (fun c1 => ?_) (fun c2 => ?_)
    · have hw := hw.1 c1
      exact hk _ _ _ _ _ _ hw hP hD hS (lv_sub hl [2] rfl)
    · have hw := hw.2 c2
      refine lv_aload_n hx hb dX8_stretch_15 rfl (lv_at hl 0 rfl) ?_
      refine va_get (D := (dC, dI)) (ci := 8) (v := .ref (ad_p0 1)) (C := RX8) (T := TX8) (N := 6) hx hb hts iX8 hown hK hP 0 rfl rfl 1 (by decide) (hts (.fieldLink RX8 23 "NetHouse$Tree" "child" "LNetHouse$Holding;") (by decide +kernel)) (fun _ h9 => h9) rfl dX8_stretch_16 ?_
      refine va_get (D := (dC, dI)) (ci := 3) (v := .ref (ad_p0_child 0)) (C := RX3) (T := TX3) (N := 2) hx hb hts iX3 hown hK hP 1 rfl rfl 0 (by decide) (hts (.fieldLink RX8 109 "NetHouse$Holding" "many" "[I") (by decide +kernel)) (fun _ h9 => h9) rfl dX8_stretch_19 ?_
      refine lv_iload_n hx hb dX8_stretch_22 rfl (lv_at hl 3 rfl) ?_
      refine va_iald hx hb hK hP 2 0 rfl rfl hw.1 dX8_stretch_23 ?_
      have hw := hw.2
      refine lv_ldc (v := 2147483647) hx hb hown (hts (.constant RX8 112 (2147483647)) (by decide +kernel)) dX8_stretch_24 ?_
      refine lv_icmp_eq (tgt := 63) hx hb dX8_stretch_26 (by decide) (fun c3 => ?_) (fun c4 => ?_)
      · have hw := hw.1 c3
        obtain ⟨x5, ex5⟩ : ∃ y : Int32, y = v3 + (1 : Int32) := ⟨_, rfl⟩
        have hw := hw x5 ex5
        refine lv_iinc (v := x5) (lv' := [(3, .int x5), (0, .ref h_p0), (1, .int v1), (2, .int v2)]) hx hb dX8_stretch_63 hl (k := 3) rfl (by rw [ex5]; rfl) (by decide) rfl (fun ls hl => ?_)
        refine lv_goto (tgt := 4) hx hb dX8_stretch_66 (by decide) ?_
        exact ih _ _ _ hw _ _ _ hP hD hS (lv_sub hl [1, 2, 3, 0] rfl)
      · have hw := hw.2 c4
        refine lv_aload_n hx hb dX8_stretch_29 rfl (lv_at hl 0 rfl) ?_
        refine va_get (D := (dC, dI)) (ci := 8) (v := .ref (ad_p0 0)) (C := RX8) (T := TX8) (N := 6) hx hb hts iX8 hown hK hP 0 rfl rfl 0 (by decide) (hts (.fieldLink RX8 14 "NetHouse$Tree" "nodes" "LNetHouse$Markings;") (by decide +kernel)) (fun _ h9 => h9) rfl dX8_stretch_30 ?_
        refine lv_iload_n hx hb dX8_stretch_33 rfl (lv_at hl 1 rfl) ?_
        refine lv_iload_n hx hb dX8_stretch_34 rfl (lv_at hl 3 rfl) ?_
        obtain ⟨hPc, hDc⟩ := x_sub (wc := (wld_X4_cellAt cI cJ cZ (ad_p0 0) ad_p0_nodes n_p0_nodes p0_nodes_width p0_nodes_size p0_nodes_cells)) hP hD [3, 4] (n := 5) rfl rfl (by decide +kernel)
        refine x_calli (ws' := fun (u : Unit) => (wld_X8_stretch cI cJ cZ h_p0 ad_p0 ad_p0_child ad_p0_nodes n_p0_nodes p0_made p0_endlessNode p0_endlessBy p0_nodes_width p0_nodes_size p0_child_many p0_nodes_cells)) hP hD hS hA [3, 4] [0, 1, 2] [0, 1, 2, 3, 4] (n := 5) (k := 2) rfl (fun _ => rfl) rfl (by decide +kernel) (fun _ => rfl) (va_runV (As := [.int v1, .int v3]) (rest := []) ⟨hx, hb, hml, hown, hts⟩ (c_X4_cellAt (l := l) (dC := dC) (dI := dI) (cI := cI) (cJ := cJ) (cZ := cZ) (sz := H.size) (h_p0 := (ad_p0 0)) (ad_p0 := ad_p0_nodes) (n_p0 := n_p0_nodes) (p0_width := p0_nodes_width) (p0_size := p0_nodes_size) (p0_cells := p0_nodes_cells) hw) (cwV 2 hts gX8_stretch_X4_cellAt rfl rfl rfl (by decide +kernel) ⟨Nat.le_of_ble_eq_true rfl, Nat.le_of_ble_eq_true rfl⟩) ⟨xPre_blind, va_recv hK hP (ci := 4) (q0 := 3) rfl rfl, xPre_at hK hPc hDc n1 n2⟩ rfl rfl hl.1 rfl (lv_room (Nat.le_of_ble_eq_true rfl)) dX8_stretch_35 ⟨Nat.zero_le _, Nat.zero_le _⟩) (fun r6 u H locs hw hP hD hS => ?_)
        try dsimp only at hw
        have hP : va_P (dC, dI) vwCl (wld_X8_stretch cI cJ cZ h_p0 ad_p0 ad_p0_child ad_p0_nodes n_p0_nodes p0_made p0_endlessNode p0_endlessBy p0_nodes_width p0_nodes_size p0_child_many p0_nodes_cells) H := hP
        have hD : va_D A (wld_X8_stretch cI cJ cZ h_p0 ad_p0 ad_p0_child ad_p0_nodes n_p0_nodes p0_made p0_endlessNode p0_endlessBy p0_nodes_width p0_nodes_size p0_child_many p0_nodes_cells) := hD
        refine lv_aload_n hx hb dX8_stretch_38 rfl (lv_at hl 0 rfl) ?_
        refine va_get (D := (dC, dI)) (ci := 8) (v := .ref (ad_p0 1)) (C := RX8) (T := TX8) (N := 6) hx hb hts iX8 hown hK hP 0 rfl rfl 1 (by decide) (hts (.fieldLink RX8 23 "NetHouse$Tree" "child" "LNetHouse$Holding;") (by decide +kernel)) (fun _ h9 => h9) rfl dX8_stretch_39 ?_
        refine va_get (D := (dC, dI)) (ci := 3) (v := .ref (ad_p0_child 0)) (C := RX3) (T := TX3) (N := 2) hx hb hts iX3 hown hK hP 1 rfl rfl 0 (by decide) (hts (.fieldLink RX8 109 "NetHouse$Holding" "many" "[I") (by decide +kernel)) (fun _ h9 => h9) rfl dX8_stretch_42 ?_
        refine lv_iload_n hx hb dX8_stretch_45 rfl (lv_at hl 3 rfl) ?_
        refine va_iald hx hb hK hP 2 0 rfl rfl hw.1 dX8_stretch_46 ?_
        have hw := hw.2
        refine lv_icmp_ge (tgt := 63) hx hb dX8_stretch_47 (by decide) (fun c7 => ?_) (fun c8 => ?_)
        · have hw := hw.1 c7
          obtain ⟨x9, ex9⟩ : ∃ y : Int32, y = v3 + (1 : Int32) := ⟨_, rfl⟩
          have hw := hw x9 ex9
          refine lv_iinc (v := x9) (lv' := [(3, .int x9), (0, .ref h_p0), (1, .int v1), (2, .int v2)]) hx hb dX8_stretch_63 hl (k := 3) rfl (by rw [ex9]; rfl) (by decide) rfl (fun ls hl => ?_)
          refine lv_goto (tgt := 4) hx hb dX8_stretch_66 (by decide) ?_
          exact ih _ _ _ hw _ _ _ hP hD hS (lv_sub hl [1, 2, 3, 0] rfl)
        · have hw := hw.2 c8
          refine lv_aload_n hx hb dX8_stretch_50 rfl (lv_at hl 0 rfl) ?_
          refine va_get (D := (dC, dI)) (ci := 8) (v := .ref (ad_p0 1)) (C := RX8) (T := TX8) (N := 6) hx hb hts iX8 hown hK hP 0 rfl rfl 1 (by decide) (hts (.fieldLink RX8 23 "NetHouse$Tree" "child" "LNetHouse$Holding;") (by decide +kernel)) (fun _ h9 => h9) rfl dX8_stretch_51 ?_
          refine va_get (D := (dC, dI)) (ci := 3) (v := .ref (ad_p0_child 0)) (C := RX3) (T := TX3) (N := 2) hx hb hts iX3 hown hK hP 1 rfl rfl 0 (by decide) (hts (.fieldLink RX8 109 "NetHouse$Holding" "many" "[I") (by decide +kernel)) (fun _ h9 => h9) rfl dX8_stretch_54 ?_
          refine lv_iload_n hx hb dX8_stretch_57 rfl (lv_at hl 3 rfl) ?_
          refine lv_ldc (v := 2147483647) hx hb hown (hts (.constant RX8 112 (2147483647)) (by decide +kernel)) dX8_stretch_58 ?_
          refine va_iast hx hb hK hP hD hS 2 0 rfl rfl hw.1 dX8_stretch_60 (fun H locs hP hD hS => ?_)
          have hw := hw.2
          have hP : va_P (dC, dI) vwCl (wld_X8_stretch cI cJ cZ h_p0 ad_p0 ad_p0_child ad_p0_nodes n_p0_nodes p0_made p0_endlessNode p0_endlessBy p0_nodes_width p0_nodes_size (upd p0_child_many v3.toNatClampNeg (2147483647 : Int32)) p0_nodes_cells) H := hP
          have hD : va_D A (wld_X8_stretch cI cJ cZ h_p0 ad_p0 ad_p0_child ad_p0_nodes n_p0_nodes p0_made p0_endlessNode p0_endlessBy p0_nodes_width p0_nodes_size (upd p0_child_many v3.toNatClampNeg (2147483647 : Int32)) p0_nodes_cells) := hD
          refine lv_iconst (v := 1) hx hb dX8_stretch_61 (by decide) ?_
          refine lv_istore_n (lv' := [(2, .int (1 : Int32)), (0, .ref h_p0), (1, .int v1), (3, .int v3)]) hx hb dX8_stretch_62 rfl hl (by decide) rfl (fun ls hl => ?_)
          obtain ⟨x10, ex10⟩ : ∃ y : Int32, y = v3 + (1 : Int32) := ⟨_, rfl⟩
          have hw := hw x10 ex10
          refine lv_iinc (v := x10) (lv' := [(3, .int x10), (2, .int (1 : Int32)), (0, .ref h_p0), (1, .int v1)]) hx hb dX8_stretch_63 hl (k := 3) rfl (by rw [ex10]; rfl) (by decide) rfl (fun ls hl => ?_)
          refine lv_goto (tgt := 4) hx hb dX8_stretch_66 (by decide) ?_
          exact ih _ _ _ hw _ _ _ hP hD hS (lv_sub hl [2, 3, 1, 0] rfl)
set_option maxHeartbeats 4000000 in
set_option maxRecDepth 100000 in
theorem c_X8_stretch {l : Launch} {dC : Nat → ClassId} {dI : Nat → Nat → Nat} {sz : Nat} {cI cJ cZ : ClassId} {h_p0 : Nat} {ad_p0 : Nat → Nat} {ad_p0_child : Nat → Nat} {ad_p0_nodes : Nat → Nat} {n_p0_nodes : Nat} {p0_made : Int32} {p0_endlessNode : Int32} {p0_endlessBy : Int32} {p0_nodes_width : Int32} {p0_nodes_size : Int32} {p0_child_many : Nat → Int32} {p0_nodes_cells : Nat → Int32} {a1 : Int32} {post : Int32 → (Nat → Int32) → Prop} (hw : w_X8_stretch n_p0_nodes p0_nodes_width p0_child_many p0_nodes_cells a1 post) : Met l yX8_stretch wsX8_stretch ({ frames := 1, cells := 0, slots := 0, locals := 22 }) (va_Pc [.ref h_p0, .int a1] (xPre (dC, dI) cI cJ cZ (wld_X8_stretch cI cJ cZ h_p0 ad_p0 ad_p0_child ad_p0_nodes n_p0_nodes p0_made p0_endlessNode p0_endlessBy p0_nodes_width p0_nodes_size p0_child_many p0_nodes_cells) sz)) (q_X8_stretch dC dI cI cJ cZ h_p0 ad_p0 ad_p0_child ad_p0_nodes n_p0_nodes p0_made p0_endlessNode p0_endlessBy p0_nodes_width p0_nodes_size p0_child_many p0_nodes_cells post (va_A (wld_X8_stretch cI cJ cZ h_p0 ad_p0 ad_p0_child ad_p0_nodes n_p0_nodes p0_made p0_endlessNode p0_endlessBy p0_nodes_width p0_nodes_size p0_child_many p0_nodes_cells) sz)) 0 0 (va_A (wld_X8_stretch cI cJ cZ h_p0 ad_p0 ad_p0_child ad_p0_nodes n_p0_nodes p0_made p0_endlessNode p0_endlessBy p0_nodes_width p0_nodes_size p0_child_many p0_nodes_cells) sz) := by
  refine x_met (cc := cX8_stretch) (maxL := 4) (ret := (some .boolean)) (own := RX8) (Qc := fun A => (q_X8_stretch dC dI cI cJ cZ h_p0 ad_p0 ad_p0_child ad_p0_nodes n_p0_nodes p0_made p0_endlessNode p0_endlessBy p0_nodes_width p0_nodes_size p0_child_many p0_nodes_cells post A)) (by decide) rfl rfl (Nat.le_of_ble_eq_true rfl) ?_
  intro p e s m args below meth c A ls E0 hP hD hS hl
  obtain ⟨hx, hb, hr, hml, hown, hts, hlocks, hK, hA, n1, n2⟩ := id E0
  have iX3 : ∀ w ∈ u_ws RX3 TX3 2, w ∈ wsX8_stretch := fun w h => List.mem_cons_of_mem _ (List.mem_append_right _ h)
  have iX4 : ∀ w ∈ u_ws RX4 TX4 7, w ∈ wsX8_stretch := fun w h => List.mem_cons_of_mem _ (List.mem_append_left _ (List.mem_append_right _ h))
  have iX8 : ∀ w ∈ u_ws RX8 TX8 6, w ∈ wsX8_stretch := fun w h => List.mem_cons_of_mem _ (List.mem_append_left _ (List.mem_append_left _ (List.mem_append_right _ h)))
  have hS0 := hS
  have hl : lv_has ls 4 [(0, .ref h_p0), (1, .int a1)] := hl
  unfold w_X8_stretch at hw
  obtain ⟨H, hH⟩ : ∃ H, H = s.heap := ⟨_, rfl⟩
  have hS : va_S A s.heap H [] := by rw [hH]; exact hS
  have hP : va_P (dC, dI) vwCl (wld_X8_stretch cI cJ cZ h_p0 ad_p0 ad_p0_child ad_p0_nodes n_p0_nodes p0_made p0_endlessNode p0_endlessBy p0_nodes_width p0_nodes_size p0_child_many p0_nodes_cells) H := by rw [hH]; exact hP
  suffices hG : W p l e ({ frames := 1, cells := 0, slots := 0, locals := 22 }) s m args below meth c H [] 0 0 (MQ below (q_X8_stretch dC dI cI cJ cZ h_p0 ad_p0 ad_p0_child ad_p0_nodes n_p0_nodes p0_made p0_endlessNode p0_endlessBy p0_nodes_width p0_nodes_size p0_child_many p0_nodes_cells post A) args s 0 0 A) (F0 m 0 ls []) by rw [hH] at hG; exact hG
  clear hH
  refine lv_iconst (v := 0) hx hb dX8_stretch_0 (by decide) ?_
  refine lv_istore_n (lv' := [(2, .int (0 : Int32)), (0, .ref h_p0), (1, .int a1)]) hx hb dX8_stretch_1 rfl hl (by decide) rfl (fun ls hl => ?_)
  refine lv_iconst (v := 0) hx hb dX8_stretch_2 (by decide) ?_
  refine lv_istore_n (lv' := [(3, .int (0 : Int32)), (2, .int (0 : Int32)), (0, .ref h_p0), (1, .int a1)]) hx hb dX8_stretch_3 rfl hl (by decide) rfl (fun ls hl => ?_)
  obtain ⟨n11, hw⟩ := hw
  refine c_X8_stretch_L4 (l := l) (z_p0_child_many := p0_child_many) E0 ?_ n11 _ _ _ hw _ _ _ hP hD hS (lv_sub hl [2, 3, 1, 0] rfl)
  · intro v12 v13 s14 H locs ls hw hP hD hS hl
    have hP : va_P (dC, dI) vwCl (wld_X8_stretch cI cJ cZ h_p0 ad_p0 ad_p0_child ad_p0_nodes n_p0_nodes p0_made p0_endlessNode p0_endlessBy p0_nodes_width p0_nodes_size s14 p0_nodes_cells) H := hP
    have hD : va_D A (wld_X8_stretch cI cJ cZ h_p0 ad_p0 ad_p0_child ad_p0_nodes n_p0_nodes p0_made p0_endlessNode p0_endlessBy p0_nodes_width p0_nodes_size s14 p0_nodes_cells) := hD
    refine lv_iload_n hx hb dX8_stretch_69 rfl (lv_at hl 0 rfl) ?_
    have hv := hw.1
    have hw := hw.2
    exact x_zret (w1 := fun (u : (Nat → Int32)) => (wld_X8_stretch cI cJ cZ h_p0 ad_p0 ad_p0_child ad_p0_nodes n_p0_nodes p0_made p0_endlessNode p0_endlessBy p0_nodes_width p0_nodes_size u p0_nodes_cells)) hx hb hr hlocks hv (s14) hw hP hD hS dX8_stretch_70
abbrev wld_X8_stretchAlong (cI cJ cZ : ClassId) (h_p0 : Nat) (ad_p0 : Nat → Nat) (ad_p0_child : Nat → Nat) (ad_p0_nodes : Nat → Nat) (n_p0_nodes : Nat) (p0_made : Int32) (p0_endlessNode : Int32) (p0_endlessBy : Int32) (p0_nodes_width : Int32) (p0_nodes_size : Int32) (p0_child_many : Nat → Int32) (p0_nodes_cells : Nat → Int32) (p0_nodes_former : Nat → Int32) : va_W := [(h_p0, .inr (8, [.ref (ad_p0 0), .ref (ad_p0 1), .ref (ad_p0 2), .int p0_made, .int p0_endlessNode, .int p0_endlessBy])), ((ad_p0 1), .inr (3, [.ref (ad_p0_child 0), .ref (ad_p0_child 1)])), ((ad_p0_child 0), .inl (cI, 16, .inl p0_child_many)), ((ad_p0 0), .inr (4, [.ref (ad_p0_nodes 0), .ref (ad_p0_nodes 1), .ref (ad_p0_nodes 2), .ref (ad_p0_nodes 3), .ref (ad_p0_nodes 4), .int p0_nodes_width, .int p0_nodes_size])), ((ad_p0_nodes 0), .inl (cI, (n_p0_nodes * 16), .inl p0_nodes_cells)), ((ad_p0_nodes 1), .inl (cI, n_p0_nodes, .inl p0_nodes_former))]
abbrev q_X8_stretchAlong (dC : Nat → ClassId) (dI : Nat → Nat → Nat) (cI cJ cZ : ClassId) (h_p0 : Nat) (ad_p0 : Nat → Nat) (ad_p0_child : Nat → Nat) (ad_p0_nodes : Nat → Nat) (n_p0_nodes : Nat) (p0_made : Int32) (p0_endlessNode : Int32) (p0_endlessBy : Int32) (p0_nodes_width : Int32) (p0_nodes_size : Int32) (p0_child_many : Nat → Int32) (p0_nodes_cells : Nat → Int32) (p0_nodes_former : Nat → Int32) (post : Int32 → (Nat → Int32) → Prop) (A : Nat → Prop) : Array Value → State → Outcome → State → Prop := va_Qi (fun r (u : (Nat → Int32)) => post r u) (fun (u : (Nat → Int32)) t => xPost (dC, dI) A (wld_X8_stretchAlong cI cJ cZ h_p0 ad_p0 ad_p0_child ad_p0_nodes n_p0_nodes p0_made p0_endlessNode p0_endlessBy p0_nodes_width p0_nodes_size u p0_nodes_cells p0_nodes_former) t) A
def w_X8_stretchAlong_L13b (n_p0_nodes : Nat) (p0_nodes_size : Int32) (p0_nodes_width : Int32) (p0_nodes_cells : Nat → Int32) (p0_nodes_former : Nat → Int32) (post : Int32 → (Nat → Int32) → Prop) (K : (Int32) → (Int32) → (Int32) → (Nat → Int32) → Prop) (rec : (Int32) → (Int32) → (Int32) → (Nat → Int32) → Prop) (v2 : Int32) (v3 : Int32) (v4 : Int32) (p0_child_many : Nat → Int32) : Prop :=
    (v4 ≤ 0 →
      K v2 v3 v4 p0_child_many) ∧
    (¬ v4 ≤ 0 →
      (v3 < 0 →
        K v2 v3 v4 p0_child_many) ∧
      (¬ v3 < 0 →
        w_X4_isNowhereAbove n_p0_nodes p0_nodes_width p0_nodes_cells p0_child_many v3 (fun r5 =>
        (r5 = 0 →
          vp_in v3 n_p0_nodes ∧
          ∀ x8 : Int32, x8 = (p0_nodes_former v3.toNatClampNeg) →
          ∀ x9 : Int32, x9 = v4 + (-1 : Int32) →
          rec v2 x8 x9 p0_child_many) ∧
        (¬ r5 = 0 →
          w_X8_stretch n_p0_nodes p0_nodes_width p0_child_many p0_nodes_cells v3 (fun r10 y11 =>
          (r10 = 0 →
            vp_in v3 n_p0_nodes ∧
            ∀ x14 : Int32, x14 = (p0_nodes_former v3.toNatClampNeg) →
            ∀ x15 : Int32, x15 = v4 + (-1 : Int32) →
            rec v2 x14 x15 y11) ∧
          (¬ r10 = 0 →
            (0 ≤ v2 →
              vp_in v3 n_p0_nodes ∧
              ∀ x18 : Int32, x18 = (p0_nodes_former v3.toNatClampNeg) →
              ∀ x19 : Int32, x19 = v4 + (-1 : Int32) →
              rec v2 x18 x19 y11) ∧
            (¬ 0 ≤ v2 →
              vp_in v3 n_p0_nodes ∧
              ∀ x20 : Int32, x20 = (p0_nodes_former v3.toNatClampNeg) →
              ∀ x21 : Int32, x21 = v4 + (-1 : Int32) →
              rec v3 x20 x21 y11)))))))
def w_X8_stretchAlong_L13 (n_p0_nodes : Nat) (p0_nodes_size : Int32) (p0_nodes_width : Int32) (p0_nodes_cells : Nat → Int32) (p0_nodes_former : Nat → Int32) (post : Int32 → (Nat → Int32) → Prop) (K : (Int32) → (Int32) → (Int32) → (Nat → Int32) → Prop) : Nat → (Int32) → (Int32) → (Int32) → (Nat → Int32) → Prop
  | 0, _, _, _, _ => False
  | n + 1, v2, v3, v4, p0_child_many => w_X8_stretchAlong_L13b n_p0_nodes p0_nodes_size p0_nodes_width p0_nodes_cells p0_nodes_former post K (w_X8_stretchAlong_L13 n_p0_nodes p0_nodes_size p0_nodes_width p0_nodes_cells p0_nodes_former post K n) v2 v3 v4 p0_child_many
def w_X8_stretchAlong (n_p0_nodes : Nat) (p0_nodes_size : Int32) (p0_nodes_width : Int32) (p0_child_many : Nat → Int32) (p0_nodes_cells : Nat → Int32) (p0_nodes_former : Nat → Int32) (a1 : Int32) (post : Int32 → (Nat → Int32) → Prop) : Prop :=
  ∃ n : Nat, w_X8_stretchAlong_L13 n_p0_nodes p0_nodes_size p0_nodes_width p0_nodes_cells p0_nodes_former post (fun v23 v24 v25 s26 =>
      (post v23 s26)) n (-1 : Int32) a1 p0_nodes_size p0_child_many
set_option maxHeartbeats 4000000 in
set_option maxRecDepth 100000 in
theorem c_X8_stretchAlong_L13 {p : Program} {l : Launch} {e : Env} {s : State} {m : MethodId} {args : Array Value} {below : List Frame} {meth : Method} {c : Code} {dC : Nat → ClassId} {dI : Nat → Nat → Nat} {A : Nat → Prop} {cI cJ cZ : ClassId} {h_p0 : Nat} {ad_p0 : Nat → Nat} {ad_p0_child : Nat → Nat} {ad_p0_nodes : Nat → Nat} {n_p0_nodes : Nat} {p0_made : Int32} {p0_endlessNode : Int32} {p0_endlessBy : Int32} {p0_nodes_width : Int32} {p0_nodes_size : Int32} {p0_nodes_cells : Nat → Int32} {p0_nodes_former : Nat → Int32} {z_p0_child_many : Nat → Int32} {post : Int32 → (Nat → Int32) → Prop} {K : (Int32) → (Int32) → (Int32) → (Nat → Int32) → Prop} (E0 : xEnv p s m args meth c cX8_stretchAlong (some .int) 5 RX8 wsX8_stretchAlong (dC, dI) cI cJ cZ A) (hk : ∀ (v2 : Int32) (v3 : Int32) (v4 : Int32) (p0_child_many : Nat → Int32) (H : Heap) (locs : List Loc) (ls : Array Slot), K v2 v3 v4 p0_child_many → va_P (dC, dI) vwCl (wld_X8_stretchAlong cI cJ cZ h_p0 ad_p0 ad_p0_child ad_p0_nodes n_p0_nodes p0_made p0_endlessNode p0_endlessBy p0_nodes_width p0_nodes_size p0_child_many p0_nodes_cells p0_nodes_former) H → va_D A (wld_X8_stretchAlong cI cJ cZ h_p0 ad_p0 ad_p0_child ad_p0_nodes n_p0_nodes p0_made p0_endlessNode p0_endlessBy p0_nodes_width p0_nodes_size p0_child_many p0_nodes_cells p0_nodes_former) → va_S A s.heap H locs → lv_has ls 5 [(2, .int v2)] → W p l e ({ frames := 2, cells := 0, slots := 0, locals := 45 }) s m args below meth c H locs 0 0 (MQ below (q_X8_stretchAlong dC dI cI cJ cZ h_p0 ad_p0 ad_p0_child ad_p0_nodes n_p0_nodes p0_made p0_endlessNode p0_endlessBy p0_nodes_width p0_nodes_size z_p0_child_many p0_nodes_cells p0_nodes_former post A) args s 0 0 A) (F0 m 67 ls [])) : ∀ (n : Nat) (v2 : Int32) (v3 : Int32) (v4 : Int32) (p0_child_many : Nat → Int32), w_X8_stretchAlong_L13 n_p0_nodes p0_nodes_size p0_nodes_width p0_nodes_cells p0_nodes_former post K n v2 v3 v4 p0_child_many → ∀ (H : Heap) (locs : List Loc) (ls : Array Slot), va_P (dC, dI) vwCl (wld_X8_stretchAlong cI cJ cZ h_p0 ad_p0 ad_p0_child ad_p0_nodes n_p0_nodes p0_made p0_endlessNode p0_endlessBy p0_nodes_width p0_nodes_size p0_child_many p0_nodes_cells p0_nodes_former) H → va_D A (wld_X8_stretchAlong cI cJ cZ h_p0 ad_p0 ad_p0_child ad_p0_nodes n_p0_nodes p0_made p0_endlessNode p0_endlessBy p0_nodes_width p0_nodes_size p0_child_many p0_nodes_cells p0_nodes_former) → va_S A s.heap H locs → lv_has ls 5 [(0, .ref h_p0), (2, .int v2), (3, .int v3), (4, .int v4)] → W p l e ({ frames := 2, cells := 0, slots := 0, locals := 45 }) s m args below meth c H locs 0 0 (MQ below (q_X8_stretchAlong dC dI cI cJ cZ h_p0 ad_p0 ad_p0_child ad_p0_nodes n_p0_nodes p0_made p0_endlessNode p0_endlessBy p0_nodes_width p0_nodes_size z_p0_child_many p0_nodes_cells p0_nodes_former post A) args s 0 0 A) (F0 m 13 ls []) := by
  obtain ⟨hx, hb, hr, hml, hown, hts, hlocks, hK, hA, n1, n2⟩ := id E0
  have iX3 : ∀ w ∈ u_ws RX3 TX3 2, w ∈ wsX8_stretchAlong := fun w h => List.mem_cons_of_mem _ (List.mem_append_right _ h)
  have iX4 : ∀ w ∈ u_ws RX4 TX4 7, w ∈ wsX8_stretchAlong := fun w h => List.mem_cons_of_mem _ (List.mem_append_left _ (List.mem_append_right _ h))
  have iX8 : ∀ w ∈ u_ws RX8 TX8 6, w ∈ wsX8_stretchAlong := fun w h => List.mem_cons_of_mem _ (List.mem_append_left _ (List.mem_append_left _ (List.mem_append_right _ h)))
  intro n
  induction n with
  | zero => intro v2 v3 v4 p0_child_many hw; exact hw.elim
  | succ n ih =>
    intro v2 v3 v4 p0_child_many hw H locs ls hP hD hS hl
    have hw : w_X8_stretchAlong_L13b n_p0_nodes p0_nodes_size p0_nodes_width p0_nodes_cells p0_nodes_former post K (w_X8_stretchAlong_L13 n_p0_nodes p0_nodes_size p0_nodes_width p0_nodes_cells p0_nodes_former post K n) v2 v3 v4 p0_child_many := hw
    unfold w_X8_stretchAlong_L13b at hw
    refine lv_iload hx hb dX8_stretchAlong_13 (lv_at hl 3 rfl) ?_
    refine lv_if_le (tgt := 67) hx hb dX8_stretchAlong_15 (by decide) (fun c1 => ?_) (fun c2 => ?_)
    · have hw := hw.1 c1
      exact hk _ _ _ _ _ _ _ hw hP hD hS (lv_sub hl [1] rfl)
    · have hw := hw.2 c2
      refine lv_iload_n hx hb dX8_stretchAlong_18 rfl (lv_at hl 2 rfl) ?_
      refine lv_if_lt (tgt := 67) hx hb dX8_stretchAlong_19 (by decide) (fun c3 => ?_) (fun c4 => ?_)
      · have hw := hw.1 c3
        exact hk _ _ _ _ _ _ _ hw hP hD hS (lv_sub hl [1] rfl)
      · have hw := hw.2 c4
        refine lv_aload_n hx hb dX8_stretchAlong_22 rfl (lv_at hl 0 rfl) ?_
        refine va_get (D := (dC, dI)) (ci := 8) (v := .ref (ad_p0 0)) (C := RX8) (T := TX8) (N := 6) hx hb hts iX8 hown hK hP 0 rfl rfl 0 (by decide) (hts (.fieldLink RX8 14 "NetHouse$Tree" "nodes" "LNetHouse$Markings;") (by decide +kernel)) (fun _ h9 => h9) rfl dX8_stretchAlong_23 ?_
        refine lv_iload_n hx hb dX8_stretchAlong_26 rfl (lv_at hl 2 rfl) ?_
        refine lv_aload_n hx hb dX8_stretchAlong_27 rfl (lv_at hl 0 rfl) ?_
        refine va_get (D := (dC, dI)) (ci := 8) (v := .ref (ad_p0 1)) (C := RX8) (T := TX8) (N := 6) hx hb hts iX8 hown hK hP 0 rfl rfl 1 (by decide) (hts (.fieldLink RX8 23 "NetHouse$Tree" "child" "LNetHouse$Holding;") (by decide +kernel)) (fun _ h9 => h9) rfl dX8_stretchAlong_28 ?_
        obtain ⟨hPc, hDc⟩ := x_sub (wc := (wld_X4_isNowhereAbove cI cJ cZ (ad_p0 0) (ad_p0 1) ad_p0_nodes ad_p0_child n_p0_nodes p0_nodes_width p0_nodes_size p0_nodes_cells p0_child_many)) hP hD [3, 4, 1, 2] (n := 6) rfl rfl (by decide +kernel)
        refine x_calli (ws' := fun (u : Unit) => (wld_X8_stretchAlong cI cJ cZ h_p0 ad_p0 ad_p0_child ad_p0_nodes n_p0_nodes p0_made p0_endlessNode p0_endlessBy p0_nodes_width p0_nodes_size p0_child_many p0_nodes_cells p0_nodes_former)) hP hD hS hA [3, 4, 1, 2] [0, 5] [0, 4, 5, 2, 3, 1] (n := 6) (k := 4) rfl (fun _ => rfl) rfl (by decide +kernel) (fun _ => rfl) (va_runV (As := [.int v3, .ref (ad_p0 1)]) (rest := []) ⟨hx, hb, hml, hown, hts⟩ (c_X4_isNowhereAbove (l := l) (dC := dC) (dI := dI) (cI := cI) (cJ := cJ) (cZ := cZ) (sz := H.size) (h_p0 := (ad_p0 0)) (h_p2 := (ad_p0 1)) (ad_p0 := ad_p0_nodes) (ad_p2 := ad_p0_child) (n_p0 := n_p0_nodes) (p0_width := p0_nodes_width) (p0_size := p0_nodes_size) (p0_cells := p0_nodes_cells) (p2_many := p0_child_many) hw) (cwV 2 hts gX8_stretchAlong_X4_isNowhereAbove rfl rfl rfl (by decide +kernel) ⟨Nat.le_of_ble_eq_true rfl, Nat.le_of_ble_eq_true rfl⟩) ⟨xPre_blind, va_recv hK hP (ci := 4) (q0 := 3) rfl rfl, xPre_at hK hPc hDc n1 n2⟩ rfl rfl hl.1 rfl (lv_room (Nat.le_of_ble_eq_true rfl)) dX8_stretchAlong_31 ⟨Nat.zero_le _, Nat.zero_le _⟩) (fun r5 u H locs hw hP hD hS => ?_)
        try dsimp only at hw
        have hP : va_P (dC, dI) vwCl (wld_X8_stretchAlong cI cJ cZ h_p0 ad_p0 ad_p0_child ad_p0_nodes n_p0_nodes p0_made p0_endlessNode p0_endlessBy p0_nodes_width p0_nodes_size p0_child_many p0_nodes_cells p0_nodes_former) H := hP
        have hD : va_D A (wld_X8_stretchAlong cI cJ cZ h_p0 ad_p0 ad_p0_child ad_p0_nodes n_p0_nodes p0_made p0_endlessNode p0_endlessBy p0_nodes_width p0_nodes_size p0_child_many p0_nodes_cells p0_nodes_former) := hD
        refine lv_if_eq (tgt := 51) hx hb dX8_stretchAlong_34 (by decide) (fun c6 => ?_) (fun c7 => ?_)
        · have hw := hw.1 c6
          refine lv_aload_n hx hb dX8_stretchAlong_51 rfl (lv_at hl 0 rfl) ?_
          refine va_get (D := (dC, dI)) (ci := 8) (v := .ref (ad_p0 0)) (C := RX8) (T := TX8) (N := 6) hx hb hts iX8 hown hK hP 0 rfl rfl 0 (by decide) (hts (.fieldLink RX8 14 "NetHouse$Tree" "nodes" "LNetHouse$Markings;") (by decide +kernel)) (fun _ h9 => h9) rfl dX8_stretchAlong_52 ?_
          refine va_get (D := (dC, dI)) (ci := 4) (v := .ref (ad_p0_nodes 1)) (C := RX4) (T := TX4) (N := 7) hx hb hts iX4 hown hK hP 3 rfl rfl 1 (by decide) (hts (.fieldLink RX8 103 "NetHouse$Markings" "former" "[I") (by decide +kernel)) (fun _ h9 => h9) rfl dX8_stretchAlong_55 ?_
          refine lv_iload_n hx hb dX8_stretchAlong_58 rfl (lv_at hl 2 rfl) ?_
          refine va_iald hx hb hK hP 5 0 rfl rfl hw.1 dX8_stretchAlong_59 ?_
          have hw := hw.2
          refine lv_topi (fun x8 ex8 => ?_)
          have hw := hw x8 ex8
          refine lv_istore_n (lv' := [(3, .int x8), (0, .ref h_p0), (2, .int v2), (4, .int v4)]) hx hb dX8_stretchAlong_60 rfl hl (by decide) rfl (fun ls hl => ?_)
          obtain ⟨x9, ex9⟩ : ∃ y : Int32, y = v4 + (-1 : Int32) := ⟨_, rfl⟩
          have hw := hw x9 ex9
          refine lv_iinc (v := x9) (lv' := [(4, .int x9), (3, .int x8), (0, .ref h_p0), (2, .int v2)]) hx hb dX8_stretchAlong_61 hl (k := 3) rfl (by rw [ex9]; rfl) (by decide) rfl (fun ls hl => ?_)
          refine lv_goto (tgt := 13) hx hb dX8_stretchAlong_64 (by decide) ?_
          exact ih _ _ _ _ hw _ _ _ hP hD hS (lv_sub hl [2, 3, 1, 0] rfl)
        · have hw := hw.2 c7
          refine lv_aload_n hx hb dX8_stretchAlong_37 rfl (lv_at hl 0 rfl) ?_
          refine lv_iload_n hx hb dX8_stretchAlong_38 rfl (lv_at hl 2 rfl) ?_
          obtain ⟨hPc, hDc⟩ := x_sub (wc := (wld_X8_stretch cI cJ cZ h_p0 ad_p0 ad_p0_child ad_p0_nodes n_p0_nodes p0_made p0_endlessNode p0_endlessBy p0_nodes_width p0_nodes_size p0_child_many p0_nodes_cells)) hP hD [0, 1, 2, 3, 4] (n := 6) rfl rfl (by decide +kernel)
          refine x_calli (ws' := fun (u : (Nat → Int32)) => (wld_X8_stretchAlong cI cJ cZ h_p0 ad_p0 ad_p0_child ad_p0_nodes n_p0_nodes p0_made p0_endlessNode p0_endlessBy p0_nodes_width p0_nodes_size u p0_nodes_cells p0_nodes_former)) hP hD hS hA [0, 1, 2, 3, 4] [5] [1, 2, 3, 4, 5, 0] (n := 6) (k := 5) rfl (fun _ => rfl) rfl (by decide +kernel) (fun _ => rfl) (va_runV (As := [.int v3]) (rest := []) ⟨hx, hb, hml, hown, hts⟩ (c_X8_stretch (l := l) (dC := dC) (dI := dI) (cI := cI) (cJ := cJ) (cZ := cZ) (sz := H.size) (h_p0 := h_p0) (ad_p0 := ad_p0) (ad_p0_child := ad_p0_child) (ad_p0_nodes := ad_p0_nodes) (n_p0_nodes := n_p0_nodes) (p0_made := p0_made) (p0_endlessNode := p0_endlessNode) (p0_endlessBy := p0_endlessBy) (p0_nodes_width := p0_nodes_width) (p0_nodes_size := p0_nodes_size) (p0_child_many := p0_child_many) (p0_nodes_cells := p0_nodes_cells) hw) (cwV 1 hts gX8_stretchAlong_X8_stretch rfl rfl rfl (by decide +kernel) ⟨Nat.le_of_ble_eq_true rfl, Nat.le_of_ble_eq_true rfl⟩) ⟨xPre_blind, va_recv hK hP (ci := 8) (q0 := 0) rfl rfl, xPre_at hK hPc hDc n1 n2⟩ rfl rfl hl.1 rfl (lv_room (Nat.le_of_ble_eq_true rfl)) dX8_stretchAlong_39 ⟨Nat.zero_le _, Nat.zero_le _⟩) (fun r10 u H locs hw hP hD hS => ?_)
          obtain ⟨y11, rfl⟩ : ∃ z, z = u := ⟨_, rfl⟩
          try dsimp only at hw
          have hP : va_P (dC, dI) vwCl (wld_X8_stretchAlong cI cJ cZ h_p0 ad_p0 ad_p0_child ad_p0_nodes n_p0_nodes p0_made p0_endlessNode p0_endlessBy p0_nodes_width p0_nodes_size y11 p0_nodes_cells p0_nodes_former) H := hP
          have hD : va_D A (wld_X8_stretchAlong cI cJ cZ h_p0 ad_p0 ad_p0_child ad_p0_nodes n_p0_nodes p0_made p0_endlessNode p0_endlessBy p0_nodes_width p0_nodes_size y11 p0_nodes_cells p0_nodes_former) := hD
          refine lv_if_eq (tgt := 51) hx hb dX8_stretchAlong_42 (by decide) (fun c12 => ?_) (fun c13 => ?_)
          · have hw := hw.1 c12
            refine lv_aload_n hx hb dX8_stretchAlong_51 rfl (lv_at hl 0 rfl) ?_
            refine va_get (D := (dC, dI)) (ci := 8) (v := .ref (ad_p0 0)) (C := RX8) (T := TX8) (N := 6) hx hb hts iX8 hown hK hP 0 rfl rfl 0 (by decide) (hts (.fieldLink RX8 14 "NetHouse$Tree" "nodes" "LNetHouse$Markings;") (by decide +kernel)) (fun _ h9 => h9) rfl dX8_stretchAlong_52 ?_
            refine va_get (D := (dC, dI)) (ci := 4) (v := .ref (ad_p0_nodes 1)) (C := RX4) (T := TX4) (N := 7) hx hb hts iX4 hown hK hP 3 rfl rfl 1 (by decide) (hts (.fieldLink RX8 103 "NetHouse$Markings" "former" "[I") (by decide +kernel)) (fun _ h9 => h9) rfl dX8_stretchAlong_55 ?_
            refine lv_iload_n hx hb dX8_stretchAlong_58 rfl (lv_at hl 2 rfl) ?_
            refine va_iald hx hb hK hP 5 0 rfl rfl hw.1 dX8_stretchAlong_59 ?_
            have hw := hw.2
            refine lv_topi (fun x14 ex14 => ?_)
            have hw := hw x14 ex14
            refine lv_istore_n (lv' := [(3, .int x14), (0, .ref h_p0), (2, .int v2), (4, .int v4)]) hx hb dX8_stretchAlong_60 rfl hl (by decide) rfl (fun ls hl => ?_)
            obtain ⟨x15, ex15⟩ : ∃ y : Int32, y = v4 + (-1 : Int32) := ⟨_, rfl⟩
            have hw := hw x15 ex15
            refine lv_iinc (v := x15) (lv' := [(4, .int x15), (3, .int x14), (0, .ref h_p0), (2, .int v2)]) hx hb dX8_stretchAlong_61 hl (k := 3) rfl (by rw [ex15]; rfl) (by decide) rfl (fun ls hl => ?_)
            refine lv_goto (tgt := 13) hx hb dX8_stretchAlong_64 (by decide) ?_
            exact ih _ _ _ _ hw _ _ _ hP hD hS (lv_sub hl [2, 3, 1, 0] rfl)
          · have hw := hw.2 c13
            refine lv_iload_n hx hb dX8_stretchAlong_45 rfl (lv_at hl 1 rfl) ?_
            refine lv_if_ge (tgt := 51) hx hb dX8_stretchAlong_46 (by decide) (fun c16 => ?_) (fun c17 => ?_)
            · have hw := hw.1 c16
              refine lv_aload_n hx hb dX8_stretchAlong_51 rfl (lv_at hl 0 rfl) ?_
              refine va_get (D := (dC, dI)) (ci := 8) (v := .ref (ad_p0 0)) (C := RX8) (T := TX8) (N := 6) hx hb hts iX8 hown hK hP 0 rfl rfl 0 (by decide) (hts (.fieldLink RX8 14 "NetHouse$Tree" "nodes" "LNetHouse$Markings;") (by decide +kernel)) (fun _ h9 => h9) rfl dX8_stretchAlong_52 ?_
              refine va_get (D := (dC, dI)) (ci := 4) (v := .ref (ad_p0_nodes 1)) (C := RX4) (T := TX4) (N := 7) hx hb hts iX4 hown hK hP 3 rfl rfl 1 (by decide) (hts (.fieldLink RX8 103 "NetHouse$Markings" "former" "[I") (by decide +kernel)) (fun _ h9 => h9) rfl dX8_stretchAlong_55 ?_
              refine lv_iload_n hx hb dX8_stretchAlong_58 rfl (lv_at hl 2 rfl) ?_
              refine va_iald hx hb hK hP 5 0 rfl rfl hw.1 dX8_stretchAlong_59 ?_
              have hw := hw.2
              refine lv_topi (fun x18 ex18 => ?_)
              have hw := hw x18 ex18
              refine lv_istore_n (lv' := [(3, .int x18), (0, .ref h_p0), (2, .int v2), (4, .int v4)]) hx hb dX8_stretchAlong_60 rfl hl (by decide) rfl (fun ls hl => ?_)
              obtain ⟨x19, ex19⟩ : ∃ y : Int32, y = v4 + (-1 : Int32) := ⟨_, rfl⟩
              have hw := hw x19 ex19
              refine lv_iinc (v := x19) (lv' := [(4, .int x19), (3, .int x18), (0, .ref h_p0), (2, .int v2)]) hx hb dX8_stretchAlong_61 hl (k := 3) rfl (by rw [ex19]; rfl) (by decide) rfl (fun ls hl => ?_)
              refine lv_goto (tgt := 13) hx hb dX8_stretchAlong_64 (by decide) ?_
              exact ih _ _ _ _ hw _ _ _ hP hD hS (lv_sub hl [2, 3, 1, 0] rfl)
            · have hw := hw.2 c17
              refine lv_iload_n hx hb dX8_stretchAlong_49 rfl (lv_at hl 2 rfl) ?_
              refine lv_istore_n (lv' := [(2, .int v3), (0, .ref h_p0), (3, .int v3), (4, .int v4)]) hx hb dX8_stretchAlong_50 rfl hl (by decide) rfl (fun ls hl => ?_)
              refine lv_aload_n hx hb dX8_stretchAlong_51 rfl (lv_at hl 1 rfl) ?_
              refine va_get (D := (dC, dI)) (ci := 8) (v := .ref (ad_p0 0)) (C := RX8) (T := TX8) (N := 6) hx hb hts iX8 hown hK hP 0 rfl rfl 0 (by decide) (hts (.fieldLink RX8 14 "NetHouse$Tree" "nodes" "LNetHouse$Markings;") (by decide +kernel)) (fun _ h9 => h9) rfl dX8_stretchAlong_52 ?_
              refine va_get (D := (dC, dI)) (ci := 4) (v := .ref (ad_p0_nodes 1)) (C := RX4) (T := TX4) (N := 7) hx hb hts iX4 hown hK hP 3 rfl rfl 1 (by decide) (hts (.fieldLink RX8 103 "NetHouse$Markings" "former" "[I") (by decide +kernel)) (fun _ h9 => h9) rfl dX8_stretchAlong_55 ?_
              refine lv_iload_n hx hb dX8_stretchAlong_58 rfl (lv_at hl 2 rfl) ?_
              refine va_iald hx hb hK hP 5 0 rfl rfl hw.1 dX8_stretchAlong_59 ?_
              have hw := hw.2
              refine lv_topi (fun x20 ex20 => ?_)
              have hw := hw x20 ex20
              refine lv_istore_n (lv' := [(3, .int x20), (2, .int v3), (0, .ref h_p0), (4, .int v4)]) hx hb dX8_stretchAlong_60 rfl hl (by decide) rfl (fun ls hl => ?_)
              obtain ⟨x21, ex21⟩ : ∃ y : Int32, y = v4 + (-1 : Int32) := ⟨_, rfl⟩
              have hw := hw x21 ex21
              refine lv_iinc (v := x21) (lv' := [(4, .int x21), (3, .int x20), (2, .int v3), (0, .ref h_p0)]) hx hb dX8_stretchAlong_61 hl (k := 3) rfl (by rw [ex21]; rfl) (by decide) rfl (fun ls hl => ?_)
              refine lv_goto (tgt := 13) hx hb dX8_stretchAlong_64 (by decide) ?_
              exact ih _ _ _ _ hw _ _ _ hP hD hS (lv_sub hl [3, 2, 1, 0] rfl)
set_option maxHeartbeats 4000000 in
set_option maxRecDepth 100000 in
theorem c_X8_stretchAlong {l : Launch} {dC : Nat → ClassId} {dI : Nat → Nat → Nat} {sz : Nat} {cI cJ cZ : ClassId} {h_p0 : Nat} {ad_p0 : Nat → Nat} {ad_p0_child : Nat → Nat} {ad_p0_nodes : Nat → Nat} {n_p0_nodes : Nat} {p0_made : Int32} {p0_endlessNode : Int32} {p0_endlessBy : Int32} {p0_nodes_width : Int32} {p0_nodes_size : Int32} {p0_child_many : Nat → Int32} {p0_nodes_cells : Nat → Int32} {p0_nodes_former : Nat → Int32} {a1 : Int32} {post : Int32 → (Nat → Int32) → Prop} (hw : w_X8_stretchAlong n_p0_nodes p0_nodes_size p0_nodes_width p0_child_many p0_nodes_cells p0_nodes_former a1 post) : Met l yX8_stretchAlong wsX8_stretchAlong ({ frames := 2, cells := 0, slots := 0, locals := 45 }) (va_Pc [.ref h_p0, .int a1] (xPre (dC, dI) cI cJ cZ (wld_X8_stretchAlong cI cJ cZ h_p0 ad_p0 ad_p0_child ad_p0_nodes n_p0_nodes p0_made p0_endlessNode p0_endlessBy p0_nodes_width p0_nodes_size p0_child_many p0_nodes_cells p0_nodes_former) sz)) (q_X8_stretchAlong dC dI cI cJ cZ h_p0 ad_p0 ad_p0_child ad_p0_nodes n_p0_nodes p0_made p0_endlessNode p0_endlessBy p0_nodes_width p0_nodes_size p0_child_many p0_nodes_cells p0_nodes_former post (va_A (wld_X8_stretchAlong cI cJ cZ h_p0 ad_p0 ad_p0_child ad_p0_nodes n_p0_nodes p0_made p0_endlessNode p0_endlessBy p0_nodes_width p0_nodes_size p0_child_many p0_nodes_cells p0_nodes_former) sz)) 0 0 (va_A (wld_X8_stretchAlong cI cJ cZ h_p0 ad_p0 ad_p0_child ad_p0_nodes n_p0_nodes p0_made p0_endlessNode p0_endlessBy p0_nodes_width p0_nodes_size p0_child_many p0_nodes_cells p0_nodes_former) sz) := by
  refine x_met (cc := cX8_stretchAlong) (maxL := 5) (ret := (some .int)) (own := RX8) (Qc := fun A => (q_X8_stretchAlong dC dI cI cJ cZ h_p0 ad_p0 ad_p0_child ad_p0_nodes n_p0_nodes p0_made p0_endlessNode p0_endlessBy p0_nodes_width p0_nodes_size p0_child_many p0_nodes_cells p0_nodes_former post A)) (by decide) rfl rfl (Nat.le_of_ble_eq_true rfl) ?_
  intro p e s m args below meth c A ls E0 hP hD hS hl
  obtain ⟨hx, hb, hr, hml, hown, hts, hlocks, hK, hA, n1, n2⟩ := id E0
  have iX3 : ∀ w ∈ u_ws RX3 TX3 2, w ∈ wsX8_stretchAlong := fun w h => List.mem_cons_of_mem _ (List.mem_append_right _ h)
  have iX4 : ∀ w ∈ u_ws RX4 TX4 7, w ∈ wsX8_stretchAlong := fun w h => List.mem_cons_of_mem _ (List.mem_append_left _ (List.mem_append_right _ h))
  have iX8 : ∀ w ∈ u_ws RX8 TX8 6, w ∈ wsX8_stretchAlong := fun w h => List.mem_cons_of_mem _ (List.mem_append_left _ (List.mem_append_left _ (List.mem_append_right _ h)))
  have hS0 := hS
  have hl : lv_has ls 5 [(0, .ref h_p0), (1, .int a1)] := hl
  unfold w_X8_stretchAlong at hw
  obtain ⟨H, hH⟩ : ∃ H, H = s.heap := ⟨_, rfl⟩
  have hS : va_S A s.heap H [] := by rw [hH]; exact hS
  have hP : va_P (dC, dI) vwCl (wld_X8_stretchAlong cI cJ cZ h_p0 ad_p0 ad_p0_child ad_p0_nodes n_p0_nodes p0_made p0_endlessNode p0_endlessBy p0_nodes_width p0_nodes_size p0_child_many p0_nodes_cells p0_nodes_former) H := by rw [hH]; exact hP
  suffices hG : W p l e ({ frames := 2, cells := 0, slots := 0, locals := 45 }) s m args below meth c H [] 0 0 (MQ below (q_X8_stretchAlong dC dI cI cJ cZ h_p0 ad_p0 ad_p0_child ad_p0_nodes n_p0_nodes p0_made p0_endlessNode p0_endlessBy p0_nodes_width p0_nodes_size p0_child_many p0_nodes_cells p0_nodes_former post A) args s 0 0 A) (F0 m 0 ls []) by rw [hH] at hG; exact hG
  clear hH
  refine lv_iconst (v := -1) hx hb dX8_stretchAlong_0 (by decide) ?_
  refine lv_istore_n (lv' := [(2, .int (-1 : Int32)), (0, .ref h_p0), (1, .int a1)]) hx hb dX8_stretchAlong_1 rfl hl (by decide) rfl (fun ls hl => ?_)
  refine lv_iload_n hx hb dX8_stretchAlong_2 rfl (lv_at hl 2 rfl) ?_
  refine lv_istore_n (lv' := [(3, .int a1), (2, .int (-1 : Int32)), (0, .ref h_p0), (1, .int a1)]) hx hb dX8_stretchAlong_3 rfl hl (by decide) rfl (fun ls hl => ?_)
  refine lv_aload_n hx hb dX8_stretchAlong_4 rfl (lv_at hl 2 rfl) ?_
  refine va_get (D := (dC, dI)) (ci := 8) (v := .ref (ad_p0 0)) (C := RX8) (T := TX8) (N := 6) hx hb hts iX8 hown hK hP 0 rfl rfl 0 (by decide) (hts (.fieldLink RX8 14 "NetHouse$Tree" "nodes" "LNetHouse$Markings;") (by decide +kernel)) (fun _ h9 => h9) rfl dX8_stretchAlong_5 ?_
  refine va_get (D := (dC, dI)) (ci := 4) (v := .int p0_nodes_size) (C := RX4) (T := TX4) (N := 7) hx hb hts iX4 hown hK hP 3 rfl rfl 6 (by decide) (hts (.fieldLink RX8 43 "NetHouse$Markings" "size" "I") (by decide +kernel)) (fun _ h9 => h9) rfl dX8_stretchAlong_8 ?_
  refine lv_istore (lv' := [(4, .int p0_nodes_size), (3, .int a1), (2, .int (-1 : Int32)), (0, .ref h_p0), (1, .int a1)]) hx hb dX8_stretchAlong_11 hl (by decide) rfl (fun ls hl => ?_)
  obtain ⟨n22, hw⟩ := hw
  refine c_X8_stretchAlong_L13 (l := l) (z_p0_child_many := p0_child_many) E0 ?_ n22 _ _ _ _ hw _ _ _ hP hD hS (lv_sub hl [3, 2, 1, 0] rfl)
  · intro v23 v24 v25 s26 H locs ls hw hP hD hS hl
    have hP : va_P (dC, dI) vwCl (wld_X8_stretchAlong cI cJ cZ h_p0 ad_p0 ad_p0_child ad_p0_nodes n_p0_nodes p0_made p0_endlessNode p0_endlessBy p0_nodes_width p0_nodes_size s26 p0_nodes_cells p0_nodes_former) H := hP
    have hD : va_D A (wld_X8_stretchAlong cI cJ cZ h_p0 ad_p0 ad_p0_child ad_p0_nodes n_p0_nodes p0_made p0_endlessNode p0_endlessBy p0_nodes_width p0_nodes_size s26 p0_nodes_cells p0_nodes_former) := hD
    refine lv_iload_n hx hb dX8_stretchAlong_67 rfl (lv_at hl 0 rfl) ?_
    exact x_iret (w1 := fun (u : (Nat → Int32)) => (wld_X8_stretchAlong cI cJ cZ h_p0 ad_p0 ad_p0_child ad_p0_nodes n_p0_nodes p0_made p0_endlessNode p0_endlessBy p0_nodes_width p0_nodes_size u p0_nodes_cells p0_nodes_former)) hx hb hr hlocks (s26) hw hP hD hS dX8_stretchAlong_68
