abbrev wld_X10_arc (cI cJ cZ : ClassId) (h_p0 : Nat) (ad_p0 : Nat → Nat) (p0_places : Int32) (p0_steps : Int32) (p0_pastFirst : Int32) (p0_past : Int32) (p0_goings : Int32) (p0_rowSize : Int32) (p0_ways : Int32) (p0_hasField : Int32) (p0_fieldSize : Int32) (p0_faultNow : Int32) (p0_hasTree : Int32) (p0_treeSize : Int32) (p0_weightCount : Int32) (p0_roundCount : Int32) (p0_setCount : Int32) (p0_puts : Nat → Int32) (p0_takes : Nat → Int32) : va_W := [(h_p0, .inr (10, [.int p0_places, .int p0_steps, .ref (ad_p0 2), .ref (ad_p0 3), .ref (ad_p0 4), .ref (ad_p0 5), .ref (ad_p0 6), .ref (ad_p0 7), .ref (ad_p0 8), .ref (ad_p0 9), .ref (ad_p0 10), .ref (ad_p0 11), .ref (ad_p0 12), .ref (ad_p0 13), .ref (ad_p0 14), .int p0_pastFirst, .int p0_past, .int p0_goings, .int p0_rowSize, .ref (ad_p0 19), .ref (ad_p0 20), .int p0_ways, .ref (ad_p0 22), .ref (ad_p0 23), .int p0_hasField, .int p0_fieldSize, .ref (ad_p0 26), .ref (ad_p0 27), .ref (ad_p0 28), .ref (ad_p0 29), .ref (ad_p0 30), .ref (ad_p0 31), .ref (ad_p0 32), .int p0_faultNow, .int p0_hasTree, .int p0_treeSize, .ref (ad_p0 36), .ref (ad_p0 37), .ref (ad_p0 38), .ref (ad_p0 39), .ref (ad_p0 40), .ref (ad_p0 41), .ref (ad_p0 42), .int p0_weightCount, .ref (ad_p0 44), .int p0_roundCount, .ref (ad_p0 46), .int p0_setCount, .ref (ad_p0 48), .ref (ad_p0 49)])), ((ad_p0 5), .inl (cI, 256, .inl p0_puts)), ((ad_p0 4), .inl (cI, 256, .inl p0_takes))]
abbrev q_X10_arc (dC : Nat → ClassId) (dI : Nat → Nat → Nat) (cI cJ cZ : ClassId) (h_p0 : Nat) (ad_p0 : Nat → Nat) (p0_places : Int32) (p0_steps : Int32) (p0_pastFirst : Int32) (p0_past : Int32) (p0_goings : Int32) (p0_rowSize : Int32) (p0_ways : Int32) (p0_hasField : Int32) (p0_fieldSize : Int32) (p0_faultNow : Int32) (p0_hasTree : Int32) (p0_treeSize : Int32) (p0_weightCount : Int32) (p0_roundCount : Int32) (p0_setCount : Int32) (p0_puts : Nat → Int32) (p0_takes : Nat → Int32) (post : Int32 → (Int32) → (Int32) → (Int32) → (Int32) → (Int32) → (Int32) → (Int32) → (Int32) → (Nat → Int32) → (Nat → Int32) → Prop) (A : Nat → Prop) : Array Value → State → Outcome → State → Prop := va_Qi (fun r (u : (Int32) × (Int32) × (Int32) × (Int32) × (Int32) × (Int32) × (Int32) × (Int32) × (Nat → Int32) × (Nat → Int32)) => post r (u.1) (u.2.1) (u.2.2.1) (u.2.2.2.1) (u.2.2.2.2.1) (u.2.2.2.2.2.1) (u.2.2.2.2.2.2.1) (u.2.2.2.2.2.2.2.1) (u.2.2.2.2.2.2.2.2.1) (u.2.2.2.2.2.2.2.2.2)) (fun (u : (Int32) × (Int32) × (Int32) × (Int32) × (Int32) × (Int32) × (Int32) × (Int32) × (Nat → Int32) × (Nat → Int32)) t => xPost (dC, dI) A (wld_X10_arc cI cJ cZ h_p0 ad_p0 p0_places p0_steps p0_pastFirst (u.2.2.2.1) p0_goings p0_rowSize p0_ways (u.2.1) (u.1) p0_faultNow (u.2.2.1) (u.2.2.2.2.2.2.1) (u.2.2.2.2.2.2.2.1) (u.2.2.2.2.1) (u.2.2.2.2.2.1) (u.2.2.2.2.2.2.2.2.1) (u.2.2.2.2.2.2.2.2.2)) t) A
def w_X10_arc (p0_fieldSize : Int32) (p0_hasField : Int32) (p0_hasTree : Int32) (p0_past : Int32) (p0_places : Int32) (p0_roundCount : Int32) (p0_setCount : Int32) (p0_steps : Int32) (p0_treeSize : Int32) (p0_weightCount : Int32) (p0_puts : Nat → Int32) (p0_takes : Nat → Int32) (a1 : Int32) (a2 : Int32) (a3 : Int32) (a4 : Int32) (post : Int32 → (Int32) → (Int32) → (Int32) → (Int32) → (Int32) → (Int32) → (Int32) → (Int32) → (Nat → Int32) → (Nat → Int32) → Prop) : Prop :=
  w_X10_isStep p0_steps a1 (fun r1 =>
  (r1 = 0 →
    (post (-2000000001 : Int32) p0_fieldSize p0_hasField p0_hasTree p0_past p0_roundCount p0_setCount p0_treeSize p0_weightCount p0_puts p0_takes)) ∧
  (¬ r1 = 0 →
    w_X10_isPlace p0_places a2 (fun r4 =>
    (r4 = 0 →
      (post (-2000000001 : Int32) p0_fieldSize p0_hasField p0_hasTree p0_past p0_roundCount p0_setCount p0_treeSize p0_weightCount p0_puts p0_takes)) ∧
    (¬ r4 = 0 →
      w_X10_isIn a3 (0 : Int32) (9 : Int32) (fun r7 =>
      (r7 = 0 →
        (post (-2000000001 : Int32) p0_fieldSize p0_hasField p0_hasTree p0_past p0_roundCount p0_setCount p0_treeSize p0_weightCount p0_puts p0_takes)) ∧
      (¬ r7 = 0 →
        w_X10_isIn a4 (0 : Int32) (9 : Int32) (fun r10 =>
        (¬ r10 = 0 →
          w_X10_changed p0_fieldSize p0_hasField p0_hasTree p0_past p0_roundCount p0_setCount p0_treeSize p0_weightCount (fun y13 y14 y15 y16 y17 y18 y19 y20 =>
          vp_in (((16 : Int32) * a1) + a2) 256 ∧
          vp_in (((16 : Int32) * a1) + a2) 256 ∧
          (post (0 : Int32) y13 y14 y15 y16 y17 y18 y19 y20 (upd p0_puts (((16 : Int32) * a1) + a2).toNatClampNeg a4) (upd p0_takes (((16 : Int32) * a1) + a2).toNatClampNeg a3)))) ∧
        (r10 = 0 →
          (post (-2000000001 : Int32) p0_fieldSize p0_hasField p0_hasTree p0_past p0_roundCount p0_setCount p0_treeSize p0_weightCount p0_puts p0_takes)))))))))
set_option maxHeartbeats 4000000 in
set_option maxRecDepth 100000 in
theorem c_X10_arc {l : Launch} {dC : Nat → ClassId} {dI : Nat → Nat → Nat} {sz : Nat} {cI cJ cZ : ClassId} {h_p0 : Nat} {ad_p0 : Nat → Nat} {p0_places : Int32} {p0_steps : Int32} {p0_pastFirst : Int32} {p0_past : Int32} {p0_goings : Int32} {p0_rowSize : Int32} {p0_ways : Int32} {p0_hasField : Int32} {p0_fieldSize : Int32} {p0_faultNow : Int32} {p0_hasTree : Int32} {p0_treeSize : Int32} {p0_weightCount : Int32} {p0_roundCount : Int32} {p0_setCount : Int32} {p0_puts : Nat → Int32} {p0_takes : Nat → Int32} {a1 : Int32} {a2 : Int32} {a3 : Int32} {a4 : Int32} {post : Int32 → (Int32) → (Int32) → (Int32) → (Int32) → (Int32) → (Int32) → (Int32) → (Int32) → (Nat → Int32) → (Nat → Int32) → Prop} (hw : w_X10_arc p0_fieldSize p0_hasField p0_hasTree p0_past p0_places p0_roundCount p0_setCount p0_steps p0_treeSize p0_weightCount p0_puts p0_takes a1 a2 a3 a4 post) : Met l yX10_arc wsX10_arc ({ frames := 1, cells := 0, slots := 0, locals := 22 }) (va_Pc [.ref h_p0, .int a1, .int a2, .int a3, .int a4] (xPre (dC, dI) cI cJ cZ (wld_X10_arc cI cJ cZ h_p0 ad_p0 p0_places p0_steps p0_pastFirst p0_past p0_goings p0_rowSize p0_ways p0_hasField p0_fieldSize p0_faultNow p0_hasTree p0_treeSize p0_weightCount p0_roundCount p0_setCount p0_puts p0_takes) sz)) (q_X10_arc dC dI cI cJ cZ h_p0 ad_p0 p0_places p0_steps p0_pastFirst p0_past p0_goings p0_rowSize p0_ways p0_hasField p0_fieldSize p0_faultNow p0_hasTree p0_treeSize p0_weightCount p0_roundCount p0_setCount p0_puts p0_takes post (va_A (wld_X10_arc cI cJ cZ h_p0 ad_p0 p0_places p0_steps p0_pastFirst p0_past p0_goings p0_rowSize p0_ways p0_hasField p0_fieldSize p0_faultNow p0_hasTree p0_treeSize p0_weightCount p0_roundCount p0_setCount p0_puts p0_takes) sz)) 0 0 (va_A (wld_X10_arc cI cJ cZ h_p0 ad_p0 p0_places p0_steps p0_pastFirst p0_past p0_goings p0_rowSize p0_ways p0_hasField p0_fieldSize p0_faultNow p0_hasTree p0_treeSize p0_weightCount p0_roundCount p0_setCount p0_puts p0_takes) sz) := by
  refine x_met (cc := cX10_arc) (maxL := 5) (ret := (some .int)) (own := RX10) (Qc := fun A => (q_X10_arc dC dI cI cJ cZ h_p0 ad_p0 p0_places p0_steps p0_pastFirst p0_past p0_goings p0_rowSize p0_ways p0_hasField p0_fieldSize p0_faultNow p0_hasTree p0_treeSize p0_weightCount p0_roundCount p0_setCount p0_puts p0_takes post A)) (by decide) rfl rfl (Nat.le_of_ble_eq_true rfl) ?_
  intro p e s m args below meth c A ls E0 hP hD hS hl
  obtain ⟨hx, hb, hr, hml, hown, hts, hlocks, hK, hA, n1, n2⟩ := id E0
  have iX10 : ∀ w ∈ u_ws RX10 TX10 50, w ∈ wsX10_arc := fun w h => List.mem_cons_of_mem _ (List.mem_append_right _ h)
  have hS0 := hS
  have hl : lv_has ls 5 [(0, .ref h_p0), (1, .int a1), (2, .int a2), (3, .int a3), (4, .int a4)] := hl
  unfold w_X10_arc at hw
  obtain ⟨H, hH⟩ : ∃ H, H = s.heap := ⟨_, rfl⟩
  have hS : va_S A s.heap H [] := by rw [hH]; exact hS
  have hP : va_P (dC, dI) vwCl (wld_X10_arc cI cJ cZ h_p0 ad_p0 p0_places p0_steps p0_pastFirst p0_past p0_goings p0_rowSize p0_ways p0_hasField p0_fieldSize p0_faultNow p0_hasTree p0_treeSize p0_weightCount p0_roundCount p0_setCount p0_puts p0_takes) H := by rw [hH]; exact hP
  suffices hG : W p l e ({ frames := 1, cells := 0, slots := 0, locals := 22 }) s m args below meth c H [] 0 0 (MQ below (q_X10_arc dC dI cI cJ cZ h_p0 ad_p0 p0_places p0_steps p0_pastFirst p0_past p0_goings p0_rowSize p0_ways p0_hasField p0_fieldSize p0_faultNow p0_hasTree p0_treeSize p0_weightCount p0_roundCount p0_setCount p0_puts p0_takes post A) args s 0 0 A) (F0 m 0 ls []) by rw [hH] at hG; exact hG
  clear hH
  refine lv_aload_n hx hb dX10_arc_0 rfl (lv_at hl 0 rfl) ?_
  refine lv_iload_n hx hb dX10_arc_1 rfl (lv_at hl 1 rfl) ?_
  obtain ⟨hPc, hDc⟩ := x_sub (wc := (wld_X10_isStep cI cJ cZ h_p0 ad_p0 p0_places p0_steps p0_pastFirst p0_past p0_goings p0_rowSize p0_ways p0_hasField p0_fieldSize p0_faultNow p0_hasTree p0_treeSize p0_weightCount p0_roundCount p0_setCount)) hP hD [0] (n := 3) rfl rfl (by decide +kernel)
  refine x_calli (ws' := fun (u : Unit) => (wld_X10_arc cI cJ cZ h_p0 ad_p0 p0_places p0_steps p0_pastFirst p0_past p0_goings p0_rowSize p0_ways p0_hasField p0_fieldSize p0_faultNow p0_hasTree p0_treeSize p0_weightCount p0_roundCount p0_setCount p0_puts p0_takes)) hP hD hS hA [0] [1, 2] [2, 0, 1] (n := 3) (k := 1) rfl (fun _ => rfl) rfl (by decide +kernel) (fun _ => rfl) (va_runV (As := [.int a1]) (rest := []) ⟨hx, hb, hml, hown, hts⟩ (c_X10_isStep (l := l) (dC := dC) (dI := dI) (cI := cI) (cJ := cJ) (cZ := cZ) (sz := H.size) (h_p0 := h_p0) (ad_p0 := ad_p0) (p0_places := p0_places) (p0_steps := p0_steps) (p0_pastFirst := p0_pastFirst) (p0_past := p0_past) (p0_goings := p0_goings) (p0_rowSize := p0_rowSize) (p0_ways := p0_ways) (p0_hasField := p0_hasField) (p0_fieldSize := p0_fieldSize) (p0_faultNow := p0_faultNow) (p0_hasTree := p0_hasTree) (p0_treeSize := p0_treeSize) (p0_weightCount := p0_weightCount) (p0_roundCount := p0_roundCount) (p0_setCount := p0_setCount) hw) (cwV 1 hts gX10_arc_X10_isStep rfl rfl rfl (by decide +kernel) ⟨Nat.le_of_ble_eq_true rfl, Nat.le_of_ble_eq_true rfl⟩) ⟨xPre_blind, va_recv hK hP (ci := 10) (q0 := 0) rfl rfl, xPre_at hK hPc hDc n1 n2⟩ rfl rfl hl.1 rfl (lv_room (Nat.le_of_ble_eq_true rfl)) dX10_arc_2 ⟨Nat.zero_le _, Nat.zero_le _⟩) (fun r1 u H locs hw hP hD hS => ?_)
  try dsimp only at hw
  have hP : va_P (dC, dI) vwCl (wld_X10_arc cI cJ cZ h_p0 ad_p0 p0_places p0_steps p0_pastFirst p0_past p0_goings p0_rowSize p0_ways p0_hasField p0_fieldSize p0_faultNow p0_hasTree p0_treeSize p0_weightCount p0_roundCount p0_setCount p0_puts p0_takes) H := hP
  have hD : va_D A (wld_X10_arc cI cJ cZ h_p0 ad_p0 p0_places p0_steps p0_pastFirst p0_past p0_goings p0_rowSize p0_ways p0_hasField p0_fieldSize p0_faultNow p0_hasTree p0_treeSize p0_weightCount p0_roundCount p0_setCount p0_puts p0_takes) := hD
  refine lv_if_eq (tgt := 37) hx hb dX10_arc_5 (by decide) (fun c2 => ?_) (fun c3 => ?_)
  · have hw := hw.1 c2
    refine lv_ldc (v := -2000000001) hx hb hown (hts (.constant RX10 159 (-2000000001)) (by decide +kernel)) dX10_arc_37 ?_
    exact x_iret (w1 := fun (u : (Int32) × (Int32) × (Int32) × (Int32) × (Int32) × (Int32) × (Int32) × (Int32) × (Nat → Int32) × (Nat → Int32)) => (wld_X10_arc cI cJ cZ h_p0 ad_p0 p0_places p0_steps p0_pastFirst (u.2.2.2.1) p0_goings p0_rowSize p0_ways (u.2.1) (u.1) p0_faultNow (u.2.2.1) (u.2.2.2.2.2.2.1) (u.2.2.2.2.2.2.2.1) (u.2.2.2.2.1) (u.2.2.2.2.2.1) (u.2.2.2.2.2.2.2.2.1) (u.2.2.2.2.2.2.2.2.2))) hx hb hr hlocks (p0_fieldSize, p0_hasField, p0_hasTree, p0_past, p0_roundCount, p0_setCount, p0_treeSize, p0_weightCount, p0_puts, p0_takes) hw hP hD hS dX10_arc_39
  · have hw := hw.2 c3
    refine lv_aload_n hx hb dX10_arc_8 rfl (lv_at hl 0 rfl) ?_
    refine lv_iload_n hx hb dX10_arc_9 rfl (lv_at hl 2 rfl) ?_
    obtain ⟨hPc, hDc⟩ := x_sub (wc := (wld_X10_isPlace cI cJ cZ h_p0 ad_p0 p0_places p0_steps p0_pastFirst p0_past p0_goings p0_rowSize p0_ways p0_hasField p0_fieldSize p0_faultNow p0_hasTree p0_treeSize p0_weightCount p0_roundCount p0_setCount)) hP hD [0] (n := 3) rfl rfl (by decide +kernel)
    refine x_calli (ws' := fun (u : Unit) => (wld_X10_arc cI cJ cZ h_p0 ad_p0 p0_places p0_steps p0_pastFirst p0_past p0_goings p0_rowSize p0_ways p0_hasField p0_fieldSize p0_faultNow p0_hasTree p0_treeSize p0_weightCount p0_roundCount p0_setCount p0_puts p0_takes)) hP hD hS hA [0] [1, 2] [2, 0, 1] (n := 3) (k := 1) rfl (fun _ => rfl) rfl (by decide +kernel) (fun _ => rfl) (va_runV (As := [.int a2]) (rest := []) ⟨hx, hb, hml, hown, hts⟩ (c_X10_isPlace (l := l) (dC := dC) (dI := dI) (cI := cI) (cJ := cJ) (cZ := cZ) (sz := H.size) (h_p0 := h_p0) (ad_p0 := ad_p0) (p0_places := p0_places) (p0_steps := p0_steps) (p0_pastFirst := p0_pastFirst) (p0_past := p0_past) (p0_goings := p0_goings) (p0_rowSize := p0_rowSize) (p0_ways := p0_ways) (p0_hasField := p0_hasField) (p0_fieldSize := p0_fieldSize) (p0_faultNow := p0_faultNow) (p0_hasTree := p0_hasTree) (p0_treeSize := p0_treeSize) (p0_weightCount := p0_weightCount) (p0_roundCount := p0_roundCount) (p0_setCount := p0_setCount) hw) (cwV 1 hts gX10_arc_X10_isPlace rfl rfl rfl (by decide +kernel) ⟨Nat.le_of_ble_eq_true rfl, Nat.le_of_ble_eq_true rfl⟩) ⟨xPre_blind, va_recv hK hP (ci := 10) (q0 := 0) rfl rfl, xPre_at hK hPc hDc n1 n2⟩ rfl rfl hl.1 rfl (lv_room (Nat.le_of_ble_eq_true rfl)) dX10_arc_10 ⟨Nat.zero_le _, Nat.zero_le _⟩) (fun r4 u H locs hw hP hD hS => ?_)
    try dsimp only at hw
    have hP : va_P (dC, dI) vwCl (wld_X10_arc cI cJ cZ h_p0 ad_p0 p0_places p0_steps p0_pastFirst p0_past p0_goings p0_rowSize p0_ways p0_hasField p0_fieldSize p0_faultNow p0_hasTree p0_treeSize p0_weightCount p0_roundCount p0_setCount p0_puts p0_takes) H := hP
    have hD : va_D A (wld_X10_arc cI cJ cZ h_p0 ad_p0 p0_places p0_steps p0_pastFirst p0_past p0_goings p0_rowSize p0_ways p0_hasField p0_fieldSize p0_faultNow p0_hasTree p0_treeSize p0_weightCount p0_roundCount p0_setCount p0_puts p0_takes) := hD
    refine lv_if_eq (tgt := 37) hx hb dX10_arc_13 (by decide) (fun c5 => ?_) (fun c6 => ?_)
    · have hw := hw.1 c5
      refine lv_ldc (v := -2000000001) hx hb hown (hts (.constant RX10 159 (-2000000001)) (by decide +kernel)) dX10_arc_37 ?_
      exact x_iret (w1 := fun (u : (Int32) × (Int32) × (Int32) × (Int32) × (Int32) × (Int32) × (Int32) × (Int32) × (Nat → Int32) × (Nat → Int32)) => (wld_X10_arc cI cJ cZ h_p0 ad_p0 p0_places p0_steps p0_pastFirst (u.2.2.2.1) p0_goings p0_rowSize p0_ways (u.2.1) (u.1) p0_faultNow (u.2.2.1) (u.2.2.2.2.2.2.1) (u.2.2.2.2.2.2.2.1) (u.2.2.2.2.1) (u.2.2.2.2.2.1) (u.2.2.2.2.2.2.2.2.1) (u.2.2.2.2.2.2.2.2.2))) hx hb hr hlocks (p0_fieldSize, p0_hasField, p0_hasTree, p0_past, p0_roundCount, p0_setCount, p0_treeSize, p0_weightCount, p0_puts, p0_takes) hw hP hD hS dX10_arc_39
    · have hw := hw.2 c6
      refine lv_iload_n hx hb dX10_arc_16 rfl (lv_at hl 3 rfl) ?_
      refine lv_iconst (v := 0) hx hb dX10_arc_17 (by decide) ?_
      refine lv_bipush (v := 9) hx hb dX10_arc_18 (by decide) ?_
      obtain ⟨hPc, hDc⟩ := x_sub (wc := (wld_X10_isIn cI cJ cZ )) hP hD [] (n := 3) rfl rfl (by decide +kernel)
      refine x_calli (ws' := fun (u : Unit) => (wld_X10_arc cI cJ cZ h_p0 ad_p0 p0_places p0_steps p0_pastFirst p0_past p0_goings p0_rowSize p0_ways p0_hasField p0_fieldSize p0_faultNow p0_hasTree p0_treeSize p0_weightCount p0_roundCount p0_setCount p0_puts p0_takes)) hP hD hS hA [] [0, 1, 2] [0, 1, 2] (n := 3) (k := 0) rfl (fun _ => rfl) rfl (by decide +kernel) (fun _ => rfl) (va_runS (As := [.int a3, .int (0 : Int32), .int (9 : Int32)]) (rest := []) ⟨hx, hb, hml, hown, hts⟩ (c_X10_isIn (l := l) (dC := dC) (dI := dI) (cI := cI) (cJ := cJ) (cZ := cZ) (sz := H.size) hw) (va_cwS 3 hts gX10_arc_X10_isIn rfl rfl rfl (by decide +kernel) ⟨Nat.le_of_ble_eq_true rfl, Nat.le_of_ble_eq_true rfl⟩) ⟨xPre_blind, xPre_at hK hPc hDc n1 n2⟩ rfl rfl hl.1 rfl (lv_room (Nat.le_of_ble_eq_true rfl)) dX10_arc_20 ⟨Nat.zero_le _, Nat.zero_le _⟩) (fun r7 u H locs hw hP hD hS => ?_)
      try dsimp only at hw
      have hP : va_P (dC, dI) vwCl (wld_X10_arc cI cJ cZ h_p0 ad_p0 p0_places p0_steps p0_pastFirst p0_past p0_goings p0_rowSize p0_ways p0_hasField p0_fieldSize p0_faultNow p0_hasTree p0_treeSize p0_weightCount p0_roundCount p0_setCount p0_puts p0_takes) H := hP
      have hD : va_D A (wld_X10_arc cI cJ cZ h_p0 ad_p0 p0_places p0_steps p0_pastFirst p0_past p0_goings p0_rowSize p0_ways p0_hasField p0_fieldSize p0_faultNow p0_hasTree p0_treeSize p0_weightCount p0_roundCount p0_setCount p0_puts p0_takes) := hD
      refine lv_if_eq (tgt := 37) hx hb dX10_arc_23 (by decide) (fun c8 => ?_) (fun c9 => ?_)
      · have hw := hw.1 c8
        refine lv_ldc (v := -2000000001) hx hb hown (hts (.constant RX10 159 (-2000000001)) (by decide +kernel)) dX10_arc_37 ?_
        exact x_iret (w1 := fun (u : (Int32) × (Int32) × (Int32) × (Int32) × (Int32) × (Int32) × (Int32) × (Int32) × (Nat → Int32) × (Nat → Int32)) => (wld_X10_arc cI cJ cZ h_p0 ad_p0 p0_places p0_steps p0_pastFirst (u.2.2.2.1) p0_goings p0_rowSize p0_ways (u.2.1) (u.1) p0_faultNow (u.2.2.1) (u.2.2.2.2.2.2.1) (u.2.2.2.2.2.2.2.1) (u.2.2.2.2.1) (u.2.2.2.2.2.1) (u.2.2.2.2.2.2.2.2.1) (u.2.2.2.2.2.2.2.2.2))) hx hb hr hlocks (p0_fieldSize, p0_hasField, p0_hasTree, p0_past, p0_roundCount, p0_setCount, p0_treeSize, p0_weightCount, p0_puts, p0_takes) hw hP hD hS dX10_arc_39
      · have hw := hw.2 c9
        refine lv_iload hx hb dX10_arc_26 (lv_at hl 4 rfl) ?_
        refine lv_iconst (v := 0) hx hb dX10_arc_28 (by decide) ?_
        refine lv_bipush (v := 9) hx hb dX10_arc_29 (by decide) ?_
        obtain ⟨hPc, hDc⟩ := x_sub (wc := (wld_X10_isIn cI cJ cZ )) hP hD [] (n := 3) rfl rfl (by decide +kernel)
        refine x_calli (ws' := fun (u : Unit) => (wld_X10_arc cI cJ cZ h_p0 ad_p0 p0_places p0_steps p0_pastFirst p0_past p0_goings p0_rowSize p0_ways p0_hasField p0_fieldSize p0_faultNow p0_hasTree p0_treeSize p0_weightCount p0_roundCount p0_setCount p0_puts p0_takes)) hP hD hS hA [] [0, 1, 2] [0, 1, 2] (n := 3) (k := 0) rfl (fun _ => rfl) rfl (by decide +kernel) (fun _ => rfl) (va_runS (As := [.int a4, .int (0 : Int32), .int (9 : Int32)]) (rest := []) ⟨hx, hb, hml, hown, hts⟩ (c_X10_isIn (l := l) (dC := dC) (dI := dI) (cI := cI) (cJ := cJ) (cZ := cZ) (sz := H.size) hw) (va_cwS 3 hts gX10_arc_X10_isIn rfl rfl rfl (by decide +kernel) ⟨Nat.le_of_ble_eq_true rfl, Nat.le_of_ble_eq_true rfl⟩) ⟨xPre_blind, xPre_at hK hPc hDc n1 n2⟩ rfl rfl hl.1 rfl (lv_room (Nat.le_of_ble_eq_true rfl)) dX10_arc_31 ⟨Nat.zero_le _, Nat.zero_le _⟩) (fun r10 u H locs hw hP hD hS => ?_)
        try dsimp only at hw
        have hP : va_P (dC, dI) vwCl (wld_X10_arc cI cJ cZ h_p0 ad_p0 p0_places p0_steps p0_pastFirst p0_past p0_goings p0_rowSize p0_ways p0_hasField p0_fieldSize p0_faultNow p0_hasTree p0_treeSize p0_weightCount p0_roundCount p0_setCount p0_puts p0_takes) H := hP
        have hD : va_D A (wld_X10_arc cI cJ cZ h_p0 ad_p0 p0_places p0_steps p0_pastFirst p0_past p0_goings p0_rowSize p0_ways p0_hasField p0_fieldSize p0_faultNow p0_hasTree p0_treeSize p0_weightCount p0_roundCount p0_setCount p0_puts p0_takes) := hD
        refine lv_if_ne (tgt := 40) hx hb dX10_arc_34 (by decide) (fun c11 => ?_) (fun c12 => ?_)
        · have hw := hw.1 c11
          refine lv_aload_n hx hb dX10_arc_40 rfl (lv_at hl 0 rfl) ?_
          obtain ⟨hPc, hDc⟩ := x_sub (wc := (wld_X10_changed cI cJ cZ h_p0 ad_p0 p0_places p0_steps p0_pastFirst p0_past p0_goings p0_rowSize p0_ways p0_hasField p0_fieldSize p0_faultNow p0_hasTree p0_treeSize p0_weightCount p0_roundCount p0_setCount)) hP hD [0] (n := 3) rfl rfl (by decide +kernel)
          refine x_callv (ws' := fun (u : (Int32) × (Int32) × (Int32) × (Int32) × (Int32) × (Int32) × (Int32) × (Int32)) => (wld_X10_arc cI cJ cZ h_p0 ad_p0 p0_places p0_steps p0_pastFirst (u.2.2.2.1) p0_goings p0_rowSize p0_ways (u.2.1) (u.1) p0_faultNow (u.2.2.1) (u.2.2.2.2.2.2.1) (u.2.2.2.2.2.2.2) (u.2.2.2.2.1) (u.2.2.2.2.2.1) p0_puts p0_takes)) hP hD hS hA [0] [1, 2] [2, 0, 1] (n := 3) (k := 1) rfl (fun _ => rfl) rfl (by decide +kernel) (fun _ => rfl) (va_runV (As := []) (rest := []) ⟨hx, hb, hml, hown, hts⟩ (c_X10_changed (l := l) (dC := dC) (dI := dI) (cI := cI) (cJ := cJ) (cZ := cZ) (sz := H.size) (h_p0 := h_p0) (ad_p0 := ad_p0) (p0_places := p0_places) (p0_steps := p0_steps) (p0_pastFirst := p0_pastFirst) (p0_past := p0_past) (p0_goings := p0_goings) (p0_rowSize := p0_rowSize) (p0_ways := p0_ways) (p0_hasField := p0_hasField) (p0_fieldSize := p0_fieldSize) (p0_faultNow := p0_faultNow) (p0_hasTree := p0_hasTree) (p0_treeSize := p0_treeSize) (p0_weightCount := p0_weightCount) (p0_roundCount := p0_roundCount) (p0_setCount := p0_setCount) hw) (cwV 0 hts gX10_arc_X10_changed rfl rfl rfl (by decide +kernel) ⟨Nat.le_of_ble_eq_true rfl, Nat.le_of_ble_eq_true rfl⟩) ⟨xPre_blind, va_recv hK hP (ci := 10) (q0 := 0) rfl rfl, xPre_at hK hPc hDc n1 n2⟩ rfl rfl hl.1 rfl (lv_room (Nat.le_of_ble_eq_true rfl)) dX10_arc_41 ⟨Nat.zero_le _, Nat.zero_le _⟩) (fun u H locs hw hP hD hS => ?_)
          obtain ⟨y13, y14, y15, y16, y17, y18, y19, y20⟩ := u
          try dsimp only at hw
          have hP : va_P (dC, dI) vwCl (wld_X10_arc cI cJ cZ h_p0 ad_p0 p0_places p0_steps p0_pastFirst y16 p0_goings p0_rowSize p0_ways y14 y13 p0_faultNow y15 y19 y20 y17 y18 p0_puts p0_takes) H := hP
          have hD : va_D A (wld_X10_arc cI cJ cZ h_p0 ad_p0 p0_places p0_steps p0_pastFirst y16 p0_goings p0_rowSize p0_ways y14 y13 p0_faultNow y15 y19 y20 y17 y18 p0_puts p0_takes) := hD
          refine lv_aload_n hx hb dX10_arc_44 rfl (lv_at hl 0 rfl) ?_
          refine va_get (D := (dC, dI)) (ci := 10) (v := .ref (ad_p0 4)) (C := RX10) (T := TX10) (N := 50) hx hb hts iX10 hown hK hP 0 rfl rfl 4 (by decide) (hts (.fieldLink RX10 16 "NetHouseModel" "takes" "[I") (by decide +kernel)) (fun _ h9 => h9) rfl dX10_arc_45 ?_
          refine lv_bipush (v := 16) hx hb dX10_arc_48 (by decide) ?_
          refine lv_iload_n hx hb dX10_arc_50 rfl (lv_at hl 1 rfl) ?_
          refine lv_imul hx hb dX10_arc_51 ?_
          refine lv_iload_n hx hb dX10_arc_52 rfl (lv_at hl 2 rfl) ?_
          refine lv_iadd hx hb dX10_arc_53 ?_
          refine lv_iload_n hx hb dX10_arc_54 rfl (lv_at hl 3 rfl) ?_
          refine va_iast hx hb hK hP hD hS 2 0 rfl rfl hw.1 dX10_arc_55 (fun H locs hP hD hS => ?_)
          have hw := hw.2
          have hP : va_P (dC, dI) vwCl (wld_X10_arc cI cJ cZ h_p0 ad_p0 p0_places p0_steps p0_pastFirst y16 p0_goings p0_rowSize p0_ways y14 y13 p0_faultNow y15 y19 y20 y17 y18 p0_puts (upd p0_takes (((16 : Int32) * a1) + a2).toNatClampNeg a3)) H := hP
          have hD : va_D A (wld_X10_arc cI cJ cZ h_p0 ad_p0 p0_places p0_steps p0_pastFirst y16 p0_goings p0_rowSize p0_ways y14 y13 p0_faultNow y15 y19 y20 y17 y18 p0_puts (upd p0_takes (((16 : Int32) * a1) + a2).toNatClampNeg a3)) := hD
          refine lv_aload_n hx hb dX10_arc_56 rfl (lv_at hl 0 rfl) ?_
          refine va_get (D := (dC, dI)) (ci := 10) (v := .ref (ad_p0 5)) (C := RX10) (T := TX10) (N := 50) hx hb hts iX10 hown hK hP 0 rfl rfl 5 (by decide) (hts (.fieldLink RX10 19 "NetHouseModel" "puts" "[I") (by decide +kernel)) (fun _ h9 => h9) rfl dX10_arc_57 ?_
          refine lv_bipush (v := 16) hx hb dX10_arc_60 (by decide) ?_
          refine lv_iload_n hx hb dX10_arc_62 rfl (lv_at hl 1 rfl) ?_
          refine lv_imul hx hb dX10_arc_63 ?_
          refine lv_iload_n hx hb dX10_arc_64 rfl (lv_at hl 2 rfl) ?_
          refine lv_iadd hx hb dX10_arc_65 ?_
          refine lv_iload hx hb dX10_arc_66 (lv_at hl 4 rfl) ?_
          refine va_iast hx hb hK hP hD hS 1 0 rfl rfl hw.1 dX10_arc_68 (fun H locs hP hD hS => ?_)
          have hw := hw.2
          have hP : va_P (dC, dI) vwCl (wld_X10_arc cI cJ cZ h_p0 ad_p0 p0_places p0_steps p0_pastFirst y16 p0_goings p0_rowSize p0_ways y14 y13 p0_faultNow y15 y19 y20 y17 y18 (upd p0_puts (((16 : Int32) * a1) + a2).toNatClampNeg a4) (upd p0_takes (((16 : Int32) * a1) + a2).toNatClampNeg a3)) H := hP
          have hD : va_D A (wld_X10_arc cI cJ cZ h_p0 ad_p0 p0_places p0_steps p0_pastFirst y16 p0_goings p0_rowSize p0_ways y14 y13 p0_faultNow y15 y19 y20 y17 y18 (upd p0_puts (((16 : Int32) * a1) + a2).toNatClampNeg a4) (upd p0_takes (((16 : Int32) * a1) + a2).toNatClampNeg a3)) := hD
          refine lv_iconst (v := 0) hx hb dX10_arc_69 (by decide) ?_
          exact x_iret (w1 := fun (u : (Int32) × (Int32) × (Int32) × (Int32) × (Int32) × (Int32) × (Int32) × (Int32) × (Nat → Int32) × (Nat → Int32)) => (wld_X10_arc cI cJ cZ h_p0 ad_p0 p0_places p0_steps p0_pastFirst (u.2.2.2.1) p0_goings p0_rowSize p0_ways (u.2.1) (u.1) p0_faultNow (u.2.2.1) (u.2.2.2.2.2.2.1) (u.2.2.2.2.2.2.2.1) (u.2.2.2.2.1) (u.2.2.2.2.2.1) (u.2.2.2.2.2.2.2.2.1) (u.2.2.2.2.2.2.2.2.2))) hx hb hr hlocks (y13, y14, y15, y16, y17, y18, y19, y20, (upd p0_puts (((16 : Int32) * a1) + a2).toNatClampNeg a4), (upd p0_takes (((16 : Int32) * a1) + a2).toNatClampNeg a3)) hw hP hD hS dX10_arc_70
        · have hw := hw.2 c12
          refine lv_ldc (v := -2000000001) hx hb hown (hts (.constant RX10 159 (-2000000001)) (by decide +kernel)) dX10_arc_37 ?_
          exact x_iret (w1 := fun (u : (Int32) × (Int32) × (Int32) × (Int32) × (Int32) × (Int32) × (Int32) × (Int32) × (Nat → Int32) × (Nat → Int32)) => (wld_X10_arc cI cJ cZ h_p0 ad_p0 p0_places p0_steps p0_pastFirst (u.2.2.2.1) p0_goings p0_rowSize p0_ways (u.2.1) (u.1) p0_faultNow (u.2.2.1) (u.2.2.2.2.2.2.1) (u.2.2.2.2.2.2.2.1) (u.2.2.2.2.1) (u.2.2.2.2.2.1) (u.2.2.2.2.2.2.2.2.1) (u.2.2.2.2.2.2.2.2.2))) hx hb hr hlocks (p0_fieldSize, p0_hasField, p0_hasTree, p0_past, p0_roundCount, p0_setCount, p0_treeSize, p0_weightCount, p0_puts, p0_takes) hw hP hD hS dX10_arc_39
abbrev wld_X10_need (cI cJ cZ : ClassId) (h_p0 : Nat) (ad_p0 : Nat → Nat) (p0_places : Int32) (p0_steps : Int32) (p0_pastFirst : Int32) (p0_past : Int32) (p0_goings : Int32) (p0_rowSize : Int32) (p0_ways : Int32) (p0_hasField : Int32) (p0_fieldSize : Int32) (p0_faultNow : Int32) (p0_hasTree : Int32) (p0_treeSize : Int32) (p0_weightCount : Int32) (p0_roundCount : Int32) (p0_setCount : Int32) (p0_needs : Nat → Int32) (p0_sort : Nat → Int32) : va_W := [(h_p0, .inr (10, [.int p0_places, .int p0_steps, .ref (ad_p0 2), .ref (ad_p0 3), .ref (ad_p0 4), .ref (ad_p0 5), .ref (ad_p0 6), .ref (ad_p0 7), .ref (ad_p0 8), .ref (ad_p0 9), .ref (ad_p0 10), .ref (ad_p0 11), .ref (ad_p0 12), .ref (ad_p0 13), .ref (ad_p0 14), .int p0_pastFirst, .int p0_past, .int p0_goings, .int p0_rowSize, .ref (ad_p0 19), .ref (ad_p0 20), .int p0_ways, .ref (ad_p0 22), .ref (ad_p0 23), .int p0_hasField, .int p0_fieldSize, .ref (ad_p0 26), .ref (ad_p0 27), .ref (ad_p0 28), .ref (ad_p0 29), .ref (ad_p0 30), .ref (ad_p0 31), .ref (ad_p0 32), .int p0_faultNow, .int p0_hasTree, .int p0_treeSize, .ref (ad_p0 36), .ref (ad_p0 37), .ref (ad_p0 38), .ref (ad_p0 39), .ref (ad_p0 40), .ref (ad_p0 41), .ref (ad_p0 42), .int p0_weightCount, .ref (ad_p0 44), .int p0_roundCount, .ref (ad_p0 46), .int p0_setCount, .ref (ad_p0 48), .ref (ad_p0 49)])), ((ad_p0 6), .inl (cI, 256, .inl p0_needs)), ((ad_p0 3), .inl (cI, 16, .inl p0_sort))]
abbrev q_X10_need (dC : Nat → ClassId) (dI : Nat → Nat → Nat) (cI cJ cZ : ClassId) (h_p0 : Nat) (ad_p0 : Nat → Nat) (p0_places : Int32) (p0_steps : Int32) (p0_pastFirst : Int32) (p0_past : Int32) (p0_goings : Int32) (p0_rowSize : Int32) (p0_ways : Int32) (p0_hasField : Int32) (p0_fieldSize : Int32) (p0_faultNow : Int32) (p0_hasTree : Int32) (p0_treeSize : Int32) (p0_weightCount : Int32) (p0_roundCount : Int32) (p0_setCount : Int32) (p0_needs : Nat → Int32) (p0_sort : Nat → Int32) (post : Int32 → (Int32) → (Int32) → (Int32) → (Int32) → (Int32) → (Int32) → (Int32) → (Int32) → (Nat → Int32) → Prop) (A : Nat → Prop) : Array Value → State → Outcome → State → Prop := va_Qi (fun r (u : (Int32) × (Int32) × (Int32) × (Int32) × (Int32) × (Int32) × (Int32) × (Int32) × (Nat → Int32)) => post r (u.1) (u.2.1) (u.2.2.1) (u.2.2.2.1) (u.2.2.2.2.1) (u.2.2.2.2.2.1) (u.2.2.2.2.2.2.1) (u.2.2.2.2.2.2.2.1) (u.2.2.2.2.2.2.2.2)) (fun (u : (Int32) × (Int32) × (Int32) × (Int32) × (Int32) × (Int32) × (Int32) × (Int32) × (Nat → Int32)) t => xPost (dC, dI) A (wld_X10_need cI cJ cZ h_p0 ad_p0 p0_places p0_steps p0_pastFirst (u.2.2.2.1) p0_goings p0_rowSize p0_ways (u.2.1) (u.1) p0_faultNow (u.2.2.1) (u.2.2.2.2.2.2.1) (u.2.2.2.2.2.2.2.1) (u.2.2.2.2.1) (u.2.2.2.2.2.1) (u.2.2.2.2.2.2.2.2) p0_sort) t) A
def w_X10_need (p0_fieldSize : Int32) (p0_hasField : Int32) (p0_hasTree : Int32) (p0_past : Int32) (p0_places : Int32) (p0_roundCount : Int32) (p0_setCount : Int32) (p0_steps : Int32) (p0_treeSize : Int32) (p0_weightCount : Int32) (p0_needs : Nat → Int32) (p0_sort : Nat → Int32) (a1 : Int32) (a2 : Int32) (a3 : Int32) (post : Int32 → (Int32) → (Int32) → (Int32) → (Int32) → (Int32) → (Int32) → (Int32) → (Int32) → (Nat → Int32) → Prop) : Prop :=
  w_X10_isStep p0_steps a1 (fun r1 =>
  (r1 = 0 →
    (post (-2000000001 : Int32) p0_fieldSize p0_hasField p0_hasTree p0_past p0_roundCount p0_setCount p0_treeSize p0_weightCount p0_needs)) ∧
  (¬ r1 = 0 →
    w_X10_isPlace p0_places a2 (fun r4 =>
    (r4 = 0 →
      (post (-2000000001 : Int32) p0_fieldSize p0_hasField p0_hasTree p0_past p0_roundCount p0_setCount p0_treeSize p0_weightCount p0_needs)) ∧
    (¬ r4 = 0 →
      w_X10_isIn a3 (0 : Int32) (9 : Int32) (fun r7 =>
      (¬ r7 = 0 →
        vp_in a1 16 ∧
        ((1 : Int32) ≤ (p0_sort a1.toNatClampNeg) →
          w_X10_changed p0_fieldSize p0_hasField p0_hasTree p0_past p0_roundCount p0_setCount p0_treeSize p0_weightCount (fun y12 y13 y14 y15 y16 y17 y18 y19 =>
          vp_in (((16 : Int32) * a1) + a2) 256 ∧
          (post (0 : Int32) y12 y13 y14 y15 y16 y17 y18 y19 (upd p0_needs (((16 : Int32) * a1) + a2).toNatClampNeg a3)))) ∧
        (¬ (1 : Int32) ≤ (p0_sort a1.toNatClampNeg) →
          (post (-2000000002 : Int32) p0_fieldSize p0_hasField p0_hasTree p0_past p0_roundCount p0_setCount p0_treeSize p0_weightCount p0_needs))) ∧
      (r7 = 0 →
        (post (-2000000001 : Int32) p0_fieldSize p0_hasField p0_hasTree p0_past p0_roundCount p0_setCount p0_treeSize p0_weightCount p0_needs)))))))
set_option maxHeartbeats 4000000 in
set_option maxRecDepth 100000 in
theorem c_X10_need {l : Launch} {dC : Nat → ClassId} {dI : Nat → Nat → Nat} {sz : Nat} {cI cJ cZ : ClassId} {h_p0 : Nat} {ad_p0 : Nat → Nat} {p0_places : Int32} {p0_steps : Int32} {p0_pastFirst : Int32} {p0_past : Int32} {p0_goings : Int32} {p0_rowSize : Int32} {p0_ways : Int32} {p0_hasField : Int32} {p0_fieldSize : Int32} {p0_faultNow : Int32} {p0_hasTree : Int32} {p0_treeSize : Int32} {p0_weightCount : Int32} {p0_roundCount : Int32} {p0_setCount : Int32} {p0_needs : Nat → Int32} {p0_sort : Nat → Int32} {a1 : Int32} {a2 : Int32} {a3 : Int32} {post : Int32 → (Int32) → (Int32) → (Int32) → (Int32) → (Int32) → (Int32) → (Int32) → (Int32) → (Nat → Int32) → Prop} (hw : w_X10_need p0_fieldSize p0_hasField p0_hasTree p0_past p0_places p0_roundCount p0_setCount p0_steps p0_treeSize p0_weightCount p0_needs p0_sort a1 a2 a3 post) : Met l yX10_need wsX10_need ({ frames := 1, cells := 0, slots := 0, locals := 22 }) (va_Pc [.ref h_p0, .int a1, .int a2, .int a3] (xPre (dC, dI) cI cJ cZ (wld_X10_need cI cJ cZ h_p0 ad_p0 p0_places p0_steps p0_pastFirst p0_past p0_goings p0_rowSize p0_ways p0_hasField p0_fieldSize p0_faultNow p0_hasTree p0_treeSize p0_weightCount p0_roundCount p0_setCount p0_needs p0_sort) sz)) (q_X10_need dC dI cI cJ cZ h_p0 ad_p0 p0_places p0_steps p0_pastFirst p0_past p0_goings p0_rowSize p0_ways p0_hasField p0_fieldSize p0_faultNow p0_hasTree p0_treeSize p0_weightCount p0_roundCount p0_setCount p0_needs p0_sort post (va_A (wld_X10_need cI cJ cZ h_p0 ad_p0 p0_places p0_steps p0_pastFirst p0_past p0_goings p0_rowSize p0_ways p0_hasField p0_fieldSize p0_faultNow p0_hasTree p0_treeSize p0_weightCount p0_roundCount p0_setCount p0_needs p0_sort) sz)) 0 0 (va_A (wld_X10_need cI cJ cZ h_p0 ad_p0 p0_places p0_steps p0_pastFirst p0_past p0_goings p0_rowSize p0_ways p0_hasField p0_fieldSize p0_faultNow p0_hasTree p0_treeSize p0_weightCount p0_roundCount p0_setCount p0_needs p0_sort) sz) := by
  refine x_met (cc := cX10_need) (maxL := 4) (ret := (some .int)) (own := RX10) (Qc := fun A => (q_X10_need dC dI cI cJ cZ h_p0 ad_p0 p0_places p0_steps p0_pastFirst p0_past p0_goings p0_rowSize p0_ways p0_hasField p0_fieldSize p0_faultNow p0_hasTree p0_treeSize p0_weightCount p0_roundCount p0_setCount p0_needs p0_sort post A)) (by decide) rfl rfl (Nat.le_of_ble_eq_true rfl) ?_
  intro p e s m args below meth c A ls E0 hP hD hS hl
  obtain ⟨hx, hb, hr, hml, hown, hts, hlocks, hK, hA, n1, n2⟩ := id E0
  have iX10 : ∀ w ∈ u_ws RX10 TX10 50, w ∈ wsX10_need := fun w h => List.mem_cons_of_mem _ (List.mem_append_right _ h)
  have hS0 := hS
  have hl : lv_has ls 4 [(0, .ref h_p0), (1, .int a1), (2, .int a2), (3, .int a3)] := hl
  unfold w_X10_need at hw
  obtain ⟨H, hH⟩ : ∃ H, H = s.heap := ⟨_, rfl⟩
  have hS : va_S A s.heap H [] := by rw [hH]; exact hS
  have hP : va_P (dC, dI) vwCl (wld_X10_need cI cJ cZ h_p0 ad_p0 p0_places p0_steps p0_pastFirst p0_past p0_goings p0_rowSize p0_ways p0_hasField p0_fieldSize p0_faultNow p0_hasTree p0_treeSize p0_weightCount p0_roundCount p0_setCount p0_needs p0_sort) H := by rw [hH]; exact hP
  suffices hG : W p l e ({ frames := 1, cells := 0, slots := 0, locals := 22 }) s m args below meth c H [] 0 0 (MQ below (q_X10_need dC dI cI cJ cZ h_p0 ad_p0 p0_places p0_steps p0_pastFirst p0_past p0_goings p0_rowSize p0_ways p0_hasField p0_fieldSize p0_faultNow p0_hasTree p0_treeSize p0_weightCount p0_roundCount p0_setCount p0_needs p0_sort post A) args s 0 0 A) (F0 m 0 ls []) by rw [hH] at hG; exact hG
  clear hH
  refine lv_aload_n hx hb dX10_need_0 rfl (lv_at hl 0 rfl) ?_
  refine lv_iload_n hx hb dX10_need_1 rfl (lv_at hl 1 rfl) ?_
  obtain ⟨hPc, hDc⟩ := x_sub (wc := (wld_X10_isStep cI cJ cZ h_p0 ad_p0 p0_places p0_steps p0_pastFirst p0_past p0_goings p0_rowSize p0_ways p0_hasField p0_fieldSize p0_faultNow p0_hasTree p0_treeSize p0_weightCount p0_roundCount p0_setCount)) hP hD [0] (n := 3) rfl rfl (by decide +kernel)
  refine x_calli (ws' := fun (u : Unit) => (wld_X10_need cI cJ cZ h_p0 ad_p0 p0_places p0_steps p0_pastFirst p0_past p0_goings p0_rowSize p0_ways p0_hasField p0_fieldSize p0_faultNow p0_hasTree p0_treeSize p0_weightCount p0_roundCount p0_setCount p0_needs p0_sort)) hP hD hS hA [0] [1, 2] [2, 0, 1] (n := 3) (k := 1) rfl (fun _ => rfl) rfl (by decide +kernel) (fun _ => rfl) (va_runV (As := [.int a1]) (rest := []) ⟨hx, hb, hml, hown, hts⟩ (c_X10_isStep (l := l) (dC := dC) (dI := dI) (cI := cI) (cJ := cJ) (cZ := cZ) (sz := H.size) (h_p0 := h_p0) (ad_p0 := ad_p0) (p0_places := p0_places) (p0_steps := p0_steps) (p0_pastFirst := p0_pastFirst) (p0_past := p0_past) (p0_goings := p0_goings) (p0_rowSize := p0_rowSize) (p0_ways := p0_ways) (p0_hasField := p0_hasField) (p0_fieldSize := p0_fieldSize) (p0_faultNow := p0_faultNow) (p0_hasTree := p0_hasTree) (p0_treeSize := p0_treeSize) (p0_weightCount := p0_weightCount) (p0_roundCount := p0_roundCount) (p0_setCount := p0_setCount) hw) (cwV 1 hts gX10_need_X10_isStep rfl rfl rfl (by decide +kernel) ⟨Nat.le_of_ble_eq_true rfl, Nat.le_of_ble_eq_true rfl⟩) ⟨xPre_blind, va_recv hK hP (ci := 10) (q0 := 0) rfl rfl, xPre_at hK hPc hDc n1 n2⟩ rfl rfl hl.1 rfl (lv_room (Nat.le_of_ble_eq_true rfl)) dX10_need_2 ⟨Nat.zero_le _, Nat.zero_le _⟩) (fun r1 u H locs hw hP hD hS => ?_)
  try dsimp only at hw
  have hP : va_P (dC, dI) vwCl (wld_X10_need cI cJ cZ h_p0 ad_p0 p0_places p0_steps p0_pastFirst p0_past p0_goings p0_rowSize p0_ways p0_hasField p0_fieldSize p0_faultNow p0_hasTree p0_treeSize p0_weightCount p0_roundCount p0_setCount p0_needs p0_sort) H := hP
  have hD : va_D A (wld_X10_need cI cJ cZ h_p0 ad_p0 p0_places p0_steps p0_pastFirst p0_past p0_goings p0_rowSize p0_ways p0_hasField p0_fieldSize p0_faultNow p0_hasTree p0_treeSize p0_weightCount p0_roundCount p0_setCount p0_needs p0_sort) := hD
  refine lv_if_eq (tgt := 26) hx hb dX10_need_5 (by decide) (fun c2 => ?_) (fun c3 => ?_)
  · have hw := hw.1 c2
    refine lv_ldc (v := -2000000001) hx hb hown (hts (.constant RX10 159 (-2000000001)) (by decide +kernel)) dX10_need_26 ?_
    exact x_iret (w1 := fun (u : (Int32) × (Int32) × (Int32) × (Int32) × (Int32) × (Int32) × (Int32) × (Int32) × (Nat → Int32)) => (wld_X10_need cI cJ cZ h_p0 ad_p0 p0_places p0_steps p0_pastFirst (u.2.2.2.1) p0_goings p0_rowSize p0_ways (u.2.1) (u.1) p0_faultNow (u.2.2.1) (u.2.2.2.2.2.2.1) (u.2.2.2.2.2.2.2.1) (u.2.2.2.2.1) (u.2.2.2.2.2.1) (u.2.2.2.2.2.2.2.2) p0_sort)) hx hb hr hlocks (p0_fieldSize, p0_hasField, p0_hasTree, p0_past, p0_roundCount, p0_setCount, p0_treeSize, p0_weightCount, p0_needs) hw hP hD hS dX10_need_28
  · have hw := hw.2 c3
    refine lv_aload_n hx hb dX10_need_8 rfl (lv_at hl 0 rfl) ?_
    refine lv_iload_n hx hb dX10_need_9 rfl (lv_at hl 2 rfl) ?_
    obtain ⟨hPc, hDc⟩ := x_sub (wc := (wld_X10_isPlace cI cJ cZ h_p0 ad_p0 p0_places p0_steps p0_pastFirst p0_past p0_goings p0_rowSize p0_ways p0_hasField p0_fieldSize p0_faultNow p0_hasTree p0_treeSize p0_weightCount p0_roundCount p0_setCount)) hP hD [0] (n := 3) rfl rfl (by decide +kernel)
    refine x_calli (ws' := fun (u : Unit) => (wld_X10_need cI cJ cZ h_p0 ad_p0 p0_places p0_steps p0_pastFirst p0_past p0_goings p0_rowSize p0_ways p0_hasField p0_fieldSize p0_faultNow p0_hasTree p0_treeSize p0_weightCount p0_roundCount p0_setCount p0_needs p0_sort)) hP hD hS hA [0] [1, 2] [2, 0, 1] (n := 3) (k := 1) rfl (fun _ => rfl) rfl (by decide +kernel) (fun _ => rfl) (va_runV (As := [.int a2]) (rest := []) ⟨hx, hb, hml, hown, hts⟩ (c_X10_isPlace (l := l) (dC := dC) (dI := dI) (cI := cI) (cJ := cJ) (cZ := cZ) (sz := H.size) (h_p0 := h_p0) (ad_p0 := ad_p0) (p0_places := p0_places) (p0_steps := p0_steps) (p0_pastFirst := p0_pastFirst) (p0_past := p0_past) (p0_goings := p0_goings) (p0_rowSize := p0_rowSize) (p0_ways := p0_ways) (p0_hasField := p0_hasField) (p0_fieldSize := p0_fieldSize) (p0_faultNow := p0_faultNow) (p0_hasTree := p0_hasTree) (p0_treeSize := p0_treeSize) (p0_weightCount := p0_weightCount) (p0_roundCount := p0_roundCount) (p0_setCount := p0_setCount) hw) (cwV 1 hts gX10_need_X10_isPlace rfl rfl rfl (by decide +kernel) ⟨Nat.le_of_ble_eq_true rfl, Nat.le_of_ble_eq_true rfl⟩) ⟨xPre_blind, va_recv hK hP (ci := 10) (q0 := 0) rfl rfl, xPre_at hK hPc hDc n1 n2⟩ rfl rfl hl.1 rfl (lv_room (Nat.le_of_ble_eq_true rfl)) dX10_need_10 ⟨Nat.zero_le _, Nat.zero_le _⟩) (fun r4 u H locs hw hP hD hS => ?_)
    try dsimp only at hw
    have hP : va_P (dC, dI) vwCl (wld_X10_need cI cJ cZ h_p0 ad_p0 p0_places p0_steps p0_pastFirst p0_past p0_goings p0_rowSize p0_ways p0_hasField p0_fieldSize p0_faultNow p0_hasTree p0_treeSize p0_weightCount p0_roundCount p0_setCount p0_needs p0_sort) H := hP
    have hD : va_D A (wld_X10_need cI cJ cZ h_p0 ad_p0 p0_places p0_steps p0_pastFirst p0_past p0_goings p0_rowSize p0_ways p0_hasField p0_fieldSize p0_faultNow p0_hasTree p0_treeSize p0_weightCount p0_roundCount p0_setCount p0_needs p0_sort) := hD
    refine lv_if_eq (tgt := 26) hx hb dX10_need_13 (by decide) (fun c5 => ?_) (fun c6 => ?_)
    · have hw := hw.1 c5
      refine lv_ldc (v := -2000000001) hx hb hown (hts (.constant RX10 159 (-2000000001)) (by decide +kernel)) dX10_need_26 ?_
      exact x_iret (w1 := fun (u : (Int32) × (Int32) × (Int32) × (Int32) × (Int32) × (Int32) × (Int32) × (Int32) × (Nat → Int32)) => (wld_X10_need cI cJ cZ h_p0 ad_p0 p0_places p0_steps p0_pastFirst (u.2.2.2.1) p0_goings p0_rowSize p0_ways (u.2.1) (u.1) p0_faultNow (u.2.2.1) (u.2.2.2.2.2.2.1) (u.2.2.2.2.2.2.2.1) (u.2.2.2.2.1) (u.2.2.2.2.2.1) (u.2.2.2.2.2.2.2.2) p0_sort)) hx hb hr hlocks (p0_fieldSize, p0_hasField, p0_hasTree, p0_past, p0_roundCount, p0_setCount, p0_treeSize, p0_weightCount, p0_needs) hw hP hD hS dX10_need_28
    · have hw := hw.2 c6
      refine lv_iload_n hx hb dX10_need_16 rfl (lv_at hl 3 rfl) ?_
      refine lv_iconst (v := 0) hx hb dX10_need_17 (by decide) ?_
      refine lv_bipush (v := 9) hx hb dX10_need_18 (by decide) ?_
      obtain ⟨hPc, hDc⟩ := x_sub (wc := (wld_X10_isIn cI cJ cZ )) hP hD [] (n := 3) rfl rfl (by decide +kernel)
      refine x_calli (ws' := fun (u : Unit) => (wld_X10_need cI cJ cZ h_p0 ad_p0 p0_places p0_steps p0_pastFirst p0_past p0_goings p0_rowSize p0_ways p0_hasField p0_fieldSize p0_faultNow p0_hasTree p0_treeSize p0_weightCount p0_roundCount p0_setCount p0_needs p0_sort)) hP hD hS hA [] [0, 1, 2] [0, 1, 2] (n := 3) (k := 0) rfl (fun _ => rfl) rfl (by decide +kernel) (fun _ => rfl) (va_runS (As := [.int a3, .int (0 : Int32), .int (9 : Int32)]) (rest := []) ⟨hx, hb, hml, hown, hts⟩ (c_X10_isIn (l := l) (dC := dC) (dI := dI) (cI := cI) (cJ := cJ) (cZ := cZ) (sz := H.size) hw) (va_cwS 3 hts gX10_need_X10_isIn rfl rfl rfl (by decide +kernel) ⟨Nat.le_of_ble_eq_true rfl, Nat.le_of_ble_eq_true rfl⟩) ⟨xPre_blind, xPre_at hK hPc hDc n1 n2⟩ rfl rfl hl.1 rfl (lv_room (Nat.le_of_ble_eq_true rfl)) dX10_need_20 ⟨Nat.zero_le _, Nat.zero_le _⟩) (fun r7 u H locs hw hP hD hS => ?_)
      try dsimp only at hw
      have hP : va_P (dC, dI) vwCl (wld_X10_need cI cJ cZ h_p0 ad_p0 p0_places p0_steps p0_pastFirst p0_past p0_goings p0_rowSize p0_ways p0_hasField p0_fieldSize p0_faultNow p0_hasTree p0_treeSize p0_weightCount p0_roundCount p0_setCount p0_needs p0_sort) H := hP
      have hD : va_D A (wld_X10_need cI cJ cZ h_p0 ad_p0 p0_places p0_steps p0_pastFirst p0_past p0_goings p0_rowSize p0_ways p0_hasField p0_fieldSize p0_faultNow p0_hasTree p0_treeSize p0_weightCount p0_roundCount p0_setCount p0_needs p0_sort) := hD
      refine lv_if_ne (tgt := 29) hx hb dX10_need_23 (by decide) (fun c8 => ?_) (fun c9 => ?_)
      · have hw := hw.1 c8
        refine lv_aload_n hx hb dX10_need_29 rfl (lv_at hl 0 rfl) ?_
        refine va_get (D := (dC, dI)) (ci := 10) (v := .ref (ad_p0 3)) (C := RX10) (T := TX10) (N := 50) hx hb hts iX10 hown hK hP 0 rfl rfl 3 (by decide) (hts (.fieldLink RX10 13 "NetHouseModel" "sort" "[I") (by decide +kernel)) (fun _ h9 => h9) rfl dX10_need_30 ?_
        refine lv_iload_n hx hb dX10_need_33 rfl (lv_at hl 1 rfl) ?_
        refine va_iald hx hb hK hP 2 0 rfl rfl hw.1 dX10_need_34 ?_
        have hw := hw.2
        refine lv_iconst (v := 1) hx hb dX10_need_35 (by decide) ?_
        refine lv_icmp_ge (tgt := 42) hx hb dX10_need_36 (by decide) (fun c10 => ?_) (fun c11 => ?_)
        · have hw := hw.1 c10
          refine lv_aload_n hx hb dX10_need_42 rfl (lv_at hl 0 rfl) ?_
          obtain ⟨hPc, hDc⟩ := x_sub (wc := (wld_X10_changed cI cJ cZ h_p0 ad_p0 p0_places p0_steps p0_pastFirst p0_past p0_goings p0_rowSize p0_ways p0_hasField p0_fieldSize p0_faultNow p0_hasTree p0_treeSize p0_weightCount p0_roundCount p0_setCount)) hP hD [0] (n := 3) rfl rfl (by decide +kernel)
          refine x_callv (ws' := fun (u : (Int32) × (Int32) × (Int32) × (Int32) × (Int32) × (Int32) × (Int32) × (Int32)) => (wld_X10_need cI cJ cZ h_p0 ad_p0 p0_places p0_steps p0_pastFirst (u.2.2.2.1) p0_goings p0_rowSize p0_ways (u.2.1) (u.1) p0_faultNow (u.2.2.1) (u.2.2.2.2.2.2.1) (u.2.2.2.2.2.2.2) (u.2.2.2.2.1) (u.2.2.2.2.2.1) p0_needs p0_sort)) hP hD hS hA [0] [1, 2] [2, 0, 1] (n := 3) (k := 1) rfl (fun _ => rfl) rfl (by decide +kernel) (fun _ => rfl) (va_runV (As := []) (rest := []) ⟨hx, hb, hml, hown, hts⟩ (c_X10_changed (l := l) (dC := dC) (dI := dI) (cI := cI) (cJ := cJ) (cZ := cZ) (sz := H.size) (h_p0 := h_p0) (ad_p0 := ad_p0) (p0_places := p0_places) (p0_steps := p0_steps) (p0_pastFirst := p0_pastFirst) (p0_past := p0_past) (p0_goings := p0_goings) (p0_rowSize := p0_rowSize) (p0_ways := p0_ways) (p0_hasField := p0_hasField) (p0_fieldSize := p0_fieldSize) (p0_faultNow := p0_faultNow) (p0_hasTree := p0_hasTree) (p0_treeSize := p0_treeSize) (p0_weightCount := p0_weightCount) (p0_roundCount := p0_roundCount) (p0_setCount := p0_setCount) hw) (cwV 0 hts gX10_need_X10_changed rfl rfl rfl (by decide +kernel) ⟨Nat.le_of_ble_eq_true rfl, Nat.le_of_ble_eq_true rfl⟩) ⟨xPre_blind, va_recv hK hP (ci := 10) (q0 := 0) rfl rfl, xPre_at hK hPc hDc n1 n2⟩ rfl rfl hl.1 rfl (lv_room (Nat.le_of_ble_eq_true rfl)) dX10_need_43 ⟨Nat.zero_le _, Nat.zero_le _⟩) (fun u H locs hw hP hD hS => ?_)
          obtain ⟨y12, y13, y14, y15, y16, y17, y18, y19⟩ := u
          try dsimp only at hw
          have hP : va_P (dC, dI) vwCl (wld_X10_need cI cJ cZ h_p0 ad_p0 p0_places p0_steps p0_pastFirst y15 p0_goings p0_rowSize p0_ways y13 y12 p0_faultNow y14 y18 y19 y16 y17 p0_needs p0_sort) H := hP
          have hD : va_D A (wld_X10_need cI cJ cZ h_p0 ad_p0 p0_places p0_steps p0_pastFirst y15 p0_goings p0_rowSize p0_ways y13 y12 p0_faultNow y14 y18 y19 y16 y17 p0_needs p0_sort) := hD
          refine lv_aload_n hx hb dX10_need_46 rfl (lv_at hl 0 rfl) ?_
          refine va_get (D := (dC, dI)) (ci := 10) (v := .ref (ad_p0 6)) (C := RX10) (T := TX10) (N := 50) hx hb hts iX10 hown hK hP 0 rfl rfl 6 (by decide) (hts (.fieldLink RX10 22 "NetHouseModel" "needs" "[I") (by decide +kernel)) (fun _ h9 => h9) rfl dX10_need_47 ?_
          refine lv_bipush (v := 16) hx hb dX10_need_50 (by decide) ?_
          refine lv_iload_n hx hb dX10_need_52 rfl (lv_at hl 1 rfl) ?_
          refine lv_imul hx hb dX10_need_53 ?_
          refine lv_iload_n hx hb dX10_need_54 rfl (lv_at hl 2 rfl) ?_
          refine lv_iadd hx hb dX10_need_55 ?_
          refine lv_iload_n hx hb dX10_need_56 rfl (lv_at hl 3 rfl) ?_
          refine va_iast hx hb hK hP hD hS 1 0 rfl rfl hw.1 dX10_need_57 (fun H locs hP hD hS => ?_)
          have hw := hw.2
          have hP : va_P (dC, dI) vwCl (wld_X10_need cI cJ cZ h_p0 ad_p0 p0_places p0_steps p0_pastFirst y15 p0_goings p0_rowSize p0_ways y13 y12 p0_faultNow y14 y18 y19 y16 y17 (upd p0_needs (((16 : Int32) * a1) + a2).toNatClampNeg a3) p0_sort) H := hP
          have hD : va_D A (wld_X10_need cI cJ cZ h_p0 ad_p0 p0_places p0_steps p0_pastFirst y15 p0_goings p0_rowSize p0_ways y13 y12 p0_faultNow y14 y18 y19 y16 y17 (upd p0_needs (((16 : Int32) * a1) + a2).toNatClampNeg a3) p0_sort) := hD
          refine lv_iconst (v := 0) hx hb dX10_need_58 (by decide) ?_
          exact x_iret (w1 := fun (u : (Int32) × (Int32) × (Int32) × (Int32) × (Int32) × (Int32) × (Int32) × (Int32) × (Nat → Int32)) => (wld_X10_need cI cJ cZ h_p0 ad_p0 p0_places p0_steps p0_pastFirst (u.2.2.2.1) p0_goings p0_rowSize p0_ways (u.2.1) (u.1) p0_faultNow (u.2.2.1) (u.2.2.2.2.2.2.1) (u.2.2.2.2.2.2.2.1) (u.2.2.2.2.1) (u.2.2.2.2.2.1) (u.2.2.2.2.2.2.2.2) p0_sort)) hx hb hr hlocks (y12, y13, y14, y15, y16, y17, y18, y19, (upd p0_needs (((16 : Int32) * a1) + a2).toNatClampNeg a3)) hw hP hD hS dX10_need_59
        · have hw := hw.2 c11
          refine lv_ldc (v := -2000000002) hx hb hown (hts (.constant RX10 171 (-2000000002)) (by decide +kernel)) dX10_need_39 ?_
          exact x_iret (w1 := fun (u : (Int32) × (Int32) × (Int32) × (Int32) × (Int32) × (Int32) × (Int32) × (Int32) × (Nat → Int32)) => (wld_X10_need cI cJ cZ h_p0 ad_p0 p0_places p0_steps p0_pastFirst (u.2.2.2.1) p0_goings p0_rowSize p0_ways (u.2.1) (u.1) p0_faultNow (u.2.2.1) (u.2.2.2.2.2.2.1) (u.2.2.2.2.2.2.2.1) (u.2.2.2.2.1) (u.2.2.2.2.2.1) (u.2.2.2.2.2.2.2.2) p0_sort)) hx hb hr hlocks (p0_fieldSize, p0_hasField, p0_hasTree, p0_past, p0_roundCount, p0_setCount, p0_treeSize, p0_weightCount, p0_needs) hw hP hD hS dX10_need_41
      · have hw := hw.2 c9
        refine lv_ldc (v := -2000000001) hx hb hown (hts (.constant RX10 159 (-2000000001)) (by decide +kernel)) dX10_need_26 ?_
        exact x_iret (w1 := fun (u : (Int32) × (Int32) × (Int32) × (Int32) × (Int32) × (Int32) × (Int32) × (Int32) × (Nat → Int32)) => (wld_X10_need cI cJ cZ h_p0 ad_p0 p0_places p0_steps p0_pastFirst (u.2.2.2.1) p0_goings p0_rowSize p0_ways (u.2.1) (u.1) p0_faultNow (u.2.2.1) (u.2.2.2.2.2.2.1) (u.2.2.2.2.2.2.2.1) (u.2.2.2.2.1) (u.2.2.2.2.2.1) (u.2.2.2.2.2.2.2.2) p0_sort)) hx hb hr hlocks (p0_fieldSize, p0_hasField, p0_hasTree, p0_past, p0_roundCount, p0_setCount, p0_treeSize, p0_weightCount, p0_needs) hw hP hD hS dX10_need_28
abbrev wld_X10_close (cI cJ cZ : ClassId) (h_p0 : Nat) (ad_p0 : Nat → Nat) (p0_places : Int32) (p0_steps : Int32) (p0_pastFirst : Int32) (p0_past : Int32) (p0_goings : Int32) (p0_rowSize : Int32) (p0_ways : Int32) (p0_hasField : Int32) (p0_fieldSize : Int32) (p0_faultNow : Int32) (p0_hasTree : Int32) (p0_treeSize : Int32) (p0_weightCount : Int32) (p0_roundCount : Int32) (p0_setCount : Int32) (p0_closes : Nat → Int32) (p0_sort : Nat → Int32) : va_W := [(h_p0, .inr (10, [.int p0_places, .int p0_steps, .ref (ad_p0 2), .ref (ad_p0 3), .ref (ad_p0 4), .ref (ad_p0 5), .ref (ad_p0 6), .ref (ad_p0 7), .ref (ad_p0 8), .ref (ad_p0 9), .ref (ad_p0 10), .ref (ad_p0 11), .ref (ad_p0 12), .ref (ad_p0 13), .ref (ad_p0 14), .int p0_pastFirst, .int p0_past, .int p0_goings, .int p0_rowSize, .ref (ad_p0 19), .ref (ad_p0 20), .int p0_ways, .ref (ad_p0 22), .ref (ad_p0 23), .int p0_hasField, .int p0_fieldSize, .ref (ad_p0 26), .ref (ad_p0 27), .ref (ad_p0 28), .ref (ad_p0 29), .ref (ad_p0 30), .ref (ad_p0 31), .ref (ad_p0 32), .int p0_faultNow, .int p0_hasTree, .int p0_treeSize, .ref (ad_p0 36), .ref (ad_p0 37), .ref (ad_p0 38), .ref (ad_p0 39), .ref (ad_p0 40), .ref (ad_p0 41), .ref (ad_p0 42), .int p0_weightCount, .ref (ad_p0 44), .int p0_roundCount, .ref (ad_p0 46), .int p0_setCount, .ref (ad_p0 48), .ref (ad_p0 49)])), ((ad_p0 7), .inl (cI, 256, .inl p0_closes)), ((ad_p0 3), .inl (cI, 16, .inl p0_sort))]
abbrev q_X10_close (dC : Nat → ClassId) (dI : Nat → Nat → Nat) (cI cJ cZ : ClassId) (h_p0 : Nat) (ad_p0 : Nat → Nat) (p0_places : Int32) (p0_steps : Int32) (p0_pastFirst : Int32) (p0_past : Int32) (p0_goings : Int32) (p0_rowSize : Int32) (p0_ways : Int32) (p0_hasField : Int32) (p0_fieldSize : Int32) (p0_faultNow : Int32) (p0_hasTree : Int32) (p0_treeSize : Int32) (p0_weightCount : Int32) (p0_roundCount : Int32) (p0_setCount : Int32) (p0_closes : Nat → Int32) (p0_sort : Nat → Int32) (post : Int32 → (Int32) → (Int32) → (Int32) → (Int32) → (Int32) → (Int32) → (Int32) → (Int32) → (Nat → Int32) → Prop) (A : Nat → Prop) : Array Value → State → Outcome → State → Prop := va_Qi (fun r (u : (Int32) × (Int32) × (Int32) × (Int32) × (Int32) × (Int32) × (Int32) × (Int32) × (Nat → Int32)) => post r (u.1) (u.2.1) (u.2.2.1) (u.2.2.2.1) (u.2.2.2.2.1) (u.2.2.2.2.2.1) (u.2.2.2.2.2.2.1) (u.2.2.2.2.2.2.2.1) (u.2.2.2.2.2.2.2.2)) (fun (u : (Int32) × (Int32) × (Int32) × (Int32) × (Int32) × (Int32) × (Int32) × (Int32) × (Nat → Int32)) t => xPost (dC, dI) A (wld_X10_close cI cJ cZ h_p0 ad_p0 p0_places p0_steps p0_pastFirst (u.2.2.2.1) p0_goings p0_rowSize p0_ways (u.2.1) (u.1) p0_faultNow (u.2.2.1) (u.2.2.2.2.2.2.1) (u.2.2.2.2.2.2.2.1) (u.2.2.2.2.1) (u.2.2.2.2.2.1) (u.2.2.2.2.2.2.2.2) p0_sort) t) A
def w_X10_close (p0_fieldSize : Int32) (p0_hasField : Int32) (p0_hasTree : Int32) (p0_past : Int32) (p0_places : Int32) (p0_roundCount : Int32) (p0_setCount : Int32) (p0_steps : Int32) (p0_treeSize : Int32) (p0_weightCount : Int32) (p0_closes : Nat → Int32) (p0_sort : Nat → Int32) (a1 : Int32) (a2 : Int32) (a3 : Int32) (post : Int32 → (Int32) → (Int32) → (Int32) → (Int32) → (Int32) → (Int32) → (Int32) → (Int32) → (Nat → Int32) → Prop) : Prop :=
  w_X10_isStep p0_steps a1 (fun r1 =>
  (r1 = 0 →
    (post (-2000000001 : Int32) p0_fieldSize p0_hasField p0_hasTree p0_past p0_roundCount p0_setCount p0_treeSize p0_weightCount p0_closes)) ∧
  (¬ r1 = 0 →
    w_X10_isPlace p0_places a2 (fun r4 =>
    (r4 = 0 →
      (post (-2000000001 : Int32) p0_fieldSize p0_hasField p0_hasTree p0_past p0_roundCount p0_setCount p0_treeSize p0_weightCount p0_closes)) ∧
    (¬ r4 = 0 →
      w_X10_isIn a3 (0 : Int32) (1 : Int32) (fun r7 =>
      (¬ r7 = 0 →
        vp_in a1 16 ∧
        ((2 : Int32) ≤ (p0_sort a1.toNatClampNeg) →
          w_X10_changed p0_fieldSize p0_hasField p0_hasTree p0_past p0_roundCount p0_setCount p0_treeSize p0_weightCount (fun y12 y13 y14 y15 y16 y17 y18 y19 =>
          vp_in (((16 : Int32) * a1) + a2) 256 ∧
          (post (0 : Int32) y12 y13 y14 y15 y16 y17 y18 y19 (upd p0_closes (((16 : Int32) * a1) + a2).toNatClampNeg a3)))) ∧
        (¬ (2 : Int32) ≤ (p0_sort a1.toNatClampNeg) →
          (post (-2000000002 : Int32) p0_fieldSize p0_hasField p0_hasTree p0_past p0_roundCount p0_setCount p0_treeSize p0_weightCount p0_closes))) ∧
      (r7 = 0 →
        (post (-2000000001 : Int32) p0_fieldSize p0_hasField p0_hasTree p0_past p0_roundCount p0_setCount p0_treeSize p0_weightCount p0_closes)))))))
set_option maxHeartbeats 4000000 in
set_option maxRecDepth 100000 in
theorem c_X10_close {l : Launch} {dC : Nat → ClassId} {dI : Nat → Nat → Nat} {sz : Nat} {cI cJ cZ : ClassId} {h_p0 : Nat} {ad_p0 : Nat → Nat} {p0_places : Int32} {p0_steps : Int32} {p0_pastFirst : Int32} {p0_past : Int32} {p0_goings : Int32} {p0_rowSize : Int32} {p0_ways : Int32} {p0_hasField : Int32} {p0_fieldSize : Int32} {p0_faultNow : Int32} {p0_hasTree : Int32} {p0_treeSize : Int32} {p0_weightCount : Int32} {p0_roundCount : Int32} {p0_setCount : Int32} {p0_closes : Nat → Int32} {p0_sort : Nat → Int32} {a1 : Int32} {a2 : Int32} {a3 : Int32} {post : Int32 → (Int32) → (Int32) → (Int32) → (Int32) → (Int32) → (Int32) → (Int32) → (Int32) → (Nat → Int32) → Prop} (hw : w_X10_close p0_fieldSize p0_hasField p0_hasTree p0_past p0_places p0_roundCount p0_setCount p0_steps p0_treeSize p0_weightCount p0_closes p0_sort a1 a2 a3 post) : Met l yX10_close wsX10_close ({ frames := 1, cells := 0, slots := 0, locals := 22 }) (va_Pc [.ref h_p0, .int a1, .int a2, .int a3] (xPre (dC, dI) cI cJ cZ (wld_X10_close cI cJ cZ h_p0 ad_p0 p0_places p0_steps p0_pastFirst p0_past p0_goings p0_rowSize p0_ways p0_hasField p0_fieldSize p0_faultNow p0_hasTree p0_treeSize p0_weightCount p0_roundCount p0_setCount p0_closes p0_sort) sz)) (q_X10_close dC dI cI cJ cZ h_p0 ad_p0 p0_places p0_steps p0_pastFirst p0_past p0_goings p0_rowSize p0_ways p0_hasField p0_fieldSize p0_faultNow p0_hasTree p0_treeSize p0_weightCount p0_roundCount p0_setCount p0_closes p0_sort post (va_A (wld_X10_close cI cJ cZ h_p0 ad_p0 p0_places p0_steps p0_pastFirst p0_past p0_goings p0_rowSize p0_ways p0_hasField p0_fieldSize p0_faultNow p0_hasTree p0_treeSize p0_weightCount p0_roundCount p0_setCount p0_closes p0_sort) sz)) 0 0 (va_A (wld_X10_close cI cJ cZ h_p0 ad_p0 p0_places p0_steps p0_pastFirst p0_past p0_goings p0_rowSize p0_ways p0_hasField p0_fieldSize p0_faultNow p0_hasTree p0_treeSize p0_weightCount p0_roundCount p0_setCount p0_closes p0_sort) sz) := by
  refine x_met (cc := cX10_close) (maxL := 4) (ret := (some .int)) (own := RX10) (Qc := fun A => (q_X10_close dC dI cI cJ cZ h_p0 ad_p0 p0_places p0_steps p0_pastFirst p0_past p0_goings p0_rowSize p0_ways p0_hasField p0_fieldSize p0_faultNow p0_hasTree p0_treeSize p0_weightCount p0_roundCount p0_setCount p0_closes p0_sort post A)) (by decide) rfl rfl (Nat.le_of_ble_eq_true rfl) ?_
  intro p e s m args below meth c A ls E0 hP hD hS hl
  obtain ⟨hx, hb, hr, hml, hown, hts, hlocks, hK, hA, n1, n2⟩ := id E0
  have iX10 : ∀ w ∈ u_ws RX10 TX10 50, w ∈ wsX10_close := fun w h => List.mem_cons_of_mem _ (List.mem_append_right _ h)
  have hS0 := hS
  have hl : lv_has ls 4 [(0, .ref h_p0), (1, .int a1), (2, .int a2), (3, .int a3)] := hl
  unfold w_X10_close at hw
  obtain ⟨H, hH⟩ : ∃ H, H = s.heap := ⟨_, rfl⟩
  have hS : va_S A s.heap H [] := by rw [hH]; exact hS
  have hP : va_P (dC, dI) vwCl (wld_X10_close cI cJ cZ h_p0 ad_p0 p0_places p0_steps p0_pastFirst p0_past p0_goings p0_rowSize p0_ways p0_hasField p0_fieldSize p0_faultNow p0_hasTree p0_treeSize p0_weightCount p0_roundCount p0_setCount p0_closes p0_sort) H := by rw [hH]; exact hP
  suffices hG : W p l e ({ frames := 1, cells := 0, slots := 0, locals := 22 }) s m args below meth c H [] 0 0 (MQ below (q_X10_close dC dI cI cJ cZ h_p0 ad_p0 p0_places p0_steps p0_pastFirst p0_past p0_goings p0_rowSize p0_ways p0_hasField p0_fieldSize p0_faultNow p0_hasTree p0_treeSize p0_weightCount p0_roundCount p0_setCount p0_closes p0_sort post A) args s 0 0 A) (F0 m 0 ls []) by rw [hH] at hG; exact hG
  clear hH
  refine lv_aload_n hx hb dX10_close_0 rfl (lv_at hl 0 rfl) ?_
  refine lv_iload_n hx hb dX10_close_1 rfl (lv_at hl 1 rfl) ?_
  obtain ⟨hPc, hDc⟩ := x_sub (wc := (wld_X10_isStep cI cJ cZ h_p0 ad_p0 p0_places p0_steps p0_pastFirst p0_past p0_goings p0_rowSize p0_ways p0_hasField p0_fieldSize p0_faultNow p0_hasTree p0_treeSize p0_weightCount p0_roundCount p0_setCount)) hP hD [0] (n := 3) rfl rfl (by decide +kernel)
  refine x_calli (ws' := fun (u : Unit) => (wld_X10_close cI cJ cZ h_p0 ad_p0 p0_places p0_steps p0_pastFirst p0_past p0_goings p0_rowSize p0_ways p0_hasField p0_fieldSize p0_faultNow p0_hasTree p0_treeSize p0_weightCount p0_roundCount p0_setCount p0_closes p0_sort)) hP hD hS hA [0] [1, 2] [2, 0, 1] (n := 3) (k := 1) rfl (fun _ => rfl) rfl (by decide +kernel) (fun _ => rfl) (va_runV (As := [.int a1]) (rest := []) ⟨hx, hb, hml, hown, hts⟩ (c_X10_isStep (l := l) (dC := dC) (dI := dI) (cI := cI) (cJ := cJ) (cZ := cZ) (sz := H.size) (h_p0 := h_p0) (ad_p0 := ad_p0) (p0_places := p0_places) (p0_steps := p0_steps) (p0_pastFirst := p0_pastFirst) (p0_past := p0_past) (p0_goings := p0_goings) (p0_rowSize := p0_rowSize) (p0_ways := p0_ways) (p0_hasField := p0_hasField) (p0_fieldSize := p0_fieldSize) (p0_faultNow := p0_faultNow) (p0_hasTree := p0_hasTree) (p0_treeSize := p0_treeSize) (p0_weightCount := p0_weightCount) (p0_roundCount := p0_roundCount) (p0_setCount := p0_setCount) hw) (cwV 1 hts gX10_close_X10_isStep rfl rfl rfl (by decide +kernel) ⟨Nat.le_of_ble_eq_true rfl, Nat.le_of_ble_eq_true rfl⟩) ⟨xPre_blind, va_recv hK hP (ci := 10) (q0 := 0) rfl rfl, xPre_at hK hPc hDc n1 n2⟩ rfl rfl hl.1 rfl (lv_room (Nat.le_of_ble_eq_true rfl)) dX10_close_2 ⟨Nat.zero_le _, Nat.zero_le _⟩) (fun r1 u H locs hw hP hD hS => ?_)
  try dsimp only at hw
  have hP : va_P (dC, dI) vwCl (wld_X10_close cI cJ cZ h_p0 ad_p0 p0_places p0_steps p0_pastFirst p0_past p0_goings p0_rowSize p0_ways p0_hasField p0_fieldSize p0_faultNow p0_hasTree p0_treeSize p0_weightCount p0_roundCount p0_setCount p0_closes p0_sort) H := hP
  have hD : va_D A (wld_X10_close cI cJ cZ h_p0 ad_p0 p0_places p0_steps p0_pastFirst p0_past p0_goings p0_rowSize p0_ways p0_hasField p0_fieldSize p0_faultNow p0_hasTree p0_treeSize p0_weightCount p0_roundCount p0_setCount p0_closes p0_sort) := hD
  refine lv_if_eq (tgt := 25) hx hb dX10_close_5 (by decide) (fun c2 => ?_) (fun c3 => ?_)
  · have hw := hw.1 c2
    refine lv_ldc (v := -2000000001) hx hb hown (hts (.constant RX10 159 (-2000000001)) (by decide +kernel)) dX10_close_25 ?_
    exact x_iret (w1 := fun (u : (Int32) × (Int32) × (Int32) × (Int32) × (Int32) × (Int32) × (Int32) × (Int32) × (Nat → Int32)) => (wld_X10_close cI cJ cZ h_p0 ad_p0 p0_places p0_steps p0_pastFirst (u.2.2.2.1) p0_goings p0_rowSize p0_ways (u.2.1) (u.1) p0_faultNow (u.2.2.1) (u.2.2.2.2.2.2.1) (u.2.2.2.2.2.2.2.1) (u.2.2.2.2.1) (u.2.2.2.2.2.1) (u.2.2.2.2.2.2.2.2) p0_sort)) hx hb hr hlocks (p0_fieldSize, p0_hasField, p0_hasTree, p0_past, p0_roundCount, p0_setCount, p0_treeSize, p0_weightCount, p0_closes) hw hP hD hS dX10_close_27
  · have hw := hw.2 c3
    refine lv_aload_n hx hb dX10_close_8 rfl (lv_at hl 0 rfl) ?_
    refine lv_iload_n hx hb dX10_close_9 rfl (lv_at hl 2 rfl) ?_
    obtain ⟨hPc, hDc⟩ := x_sub (wc := (wld_X10_isPlace cI cJ cZ h_p0 ad_p0 p0_places p0_steps p0_pastFirst p0_past p0_goings p0_rowSize p0_ways p0_hasField p0_fieldSize p0_faultNow p0_hasTree p0_treeSize p0_weightCount p0_roundCount p0_setCount)) hP hD [0] (n := 3) rfl rfl (by decide +kernel)
    refine x_calli (ws' := fun (u : Unit) => (wld_X10_close cI cJ cZ h_p0 ad_p0 p0_places p0_steps p0_pastFirst p0_past p0_goings p0_rowSize p0_ways p0_hasField p0_fieldSize p0_faultNow p0_hasTree p0_treeSize p0_weightCount p0_roundCount p0_setCount p0_closes p0_sort)) hP hD hS hA [0] [1, 2] [2, 0, 1] (n := 3) (k := 1) rfl (fun _ => rfl) rfl (by decide +kernel) (fun _ => rfl) (va_runV (As := [.int a2]) (rest := []) ⟨hx, hb, hml, hown, hts⟩ (c_X10_isPlace (l := l) (dC := dC) (dI := dI) (cI := cI) (cJ := cJ) (cZ := cZ) (sz := H.size) (h_p0 := h_p0) (ad_p0 := ad_p0) (p0_places := p0_places) (p0_steps := p0_steps) (p0_pastFirst := p0_pastFirst) (p0_past := p0_past) (p0_goings := p0_goings) (p0_rowSize := p0_rowSize) (p0_ways := p0_ways) (p0_hasField := p0_hasField) (p0_fieldSize := p0_fieldSize) (p0_faultNow := p0_faultNow) (p0_hasTree := p0_hasTree) (p0_treeSize := p0_treeSize) (p0_weightCount := p0_weightCount) (p0_roundCount := p0_roundCount) (p0_setCount := p0_setCount) hw) (cwV 1 hts gX10_close_X10_isPlace rfl rfl rfl (by decide +kernel) ⟨Nat.le_of_ble_eq_true rfl, Nat.le_of_ble_eq_true rfl⟩) ⟨xPre_blind, va_recv hK hP (ci := 10) (q0 := 0) rfl rfl, xPre_at hK hPc hDc n1 n2⟩ rfl rfl hl.1 rfl (lv_room (Nat.le_of_ble_eq_true rfl)) dX10_close_10 ⟨Nat.zero_le _, Nat.zero_le _⟩) (fun r4 u H locs hw hP hD hS => ?_)
    try dsimp only at hw
    have hP : va_P (dC, dI) vwCl (wld_X10_close cI cJ cZ h_p0 ad_p0 p0_places p0_steps p0_pastFirst p0_past p0_goings p0_rowSize p0_ways p0_hasField p0_fieldSize p0_faultNow p0_hasTree p0_treeSize p0_weightCount p0_roundCount p0_setCount p0_closes p0_sort) H := hP
    have hD : va_D A (wld_X10_close cI cJ cZ h_p0 ad_p0 p0_places p0_steps p0_pastFirst p0_past p0_goings p0_rowSize p0_ways p0_hasField p0_fieldSize p0_faultNow p0_hasTree p0_treeSize p0_weightCount p0_roundCount p0_setCount p0_closes p0_sort) := hD
    refine lv_if_eq (tgt := 25) hx hb dX10_close_13 (by decide) (fun c5 => ?_) (fun c6 => ?_)
    · have hw := hw.1 c5
      refine lv_ldc (v := -2000000001) hx hb hown (hts (.constant RX10 159 (-2000000001)) (by decide +kernel)) dX10_close_25 ?_
      exact x_iret (w1 := fun (u : (Int32) × (Int32) × (Int32) × (Int32) × (Int32) × (Int32) × (Int32) × (Int32) × (Nat → Int32)) => (wld_X10_close cI cJ cZ h_p0 ad_p0 p0_places p0_steps p0_pastFirst (u.2.2.2.1) p0_goings p0_rowSize p0_ways (u.2.1) (u.1) p0_faultNow (u.2.2.1) (u.2.2.2.2.2.2.1) (u.2.2.2.2.2.2.2.1) (u.2.2.2.2.1) (u.2.2.2.2.2.1) (u.2.2.2.2.2.2.2.2) p0_sort)) hx hb hr hlocks (p0_fieldSize, p0_hasField, p0_hasTree, p0_past, p0_roundCount, p0_setCount, p0_treeSize, p0_weightCount, p0_closes) hw hP hD hS dX10_close_27
    · have hw := hw.2 c6
      refine lv_iload_n hx hb dX10_close_16 rfl (lv_at hl 3 rfl) ?_
      refine lv_iconst (v := 0) hx hb dX10_close_17 (by decide) ?_
      refine lv_iconst (v := 1) hx hb dX10_close_18 (by decide) ?_
      obtain ⟨hPc, hDc⟩ := x_sub (wc := (wld_X10_isIn cI cJ cZ )) hP hD [] (n := 3) rfl rfl (by decide +kernel)
      refine x_calli (ws' := fun (u : Unit) => (wld_X10_close cI cJ cZ h_p0 ad_p0 p0_places p0_steps p0_pastFirst p0_past p0_goings p0_rowSize p0_ways p0_hasField p0_fieldSize p0_faultNow p0_hasTree p0_treeSize p0_weightCount p0_roundCount p0_setCount p0_closes p0_sort)) hP hD hS hA [] [0, 1, 2] [0, 1, 2] (n := 3) (k := 0) rfl (fun _ => rfl) rfl (by decide +kernel) (fun _ => rfl) (va_runS (As := [.int a3, .int (0 : Int32), .int (1 : Int32)]) (rest := []) ⟨hx, hb, hml, hown, hts⟩ (c_X10_isIn (l := l) (dC := dC) (dI := dI) (cI := cI) (cJ := cJ) (cZ := cZ) (sz := H.size) hw) (va_cwS 3 hts gX10_close_X10_isIn rfl rfl rfl (by decide +kernel) ⟨Nat.le_of_ble_eq_true rfl, Nat.le_of_ble_eq_true rfl⟩) ⟨xPre_blind, xPre_at hK hPc hDc n1 n2⟩ rfl rfl hl.1 rfl (lv_room (Nat.le_of_ble_eq_true rfl)) dX10_close_19 ⟨Nat.zero_le _, Nat.zero_le _⟩) (fun r7 u H locs hw hP hD hS => ?_)
      try dsimp only at hw
      have hP : va_P (dC, dI) vwCl (wld_X10_close cI cJ cZ h_p0 ad_p0 p0_places p0_steps p0_pastFirst p0_past p0_goings p0_rowSize p0_ways p0_hasField p0_fieldSize p0_faultNow p0_hasTree p0_treeSize p0_weightCount p0_roundCount p0_setCount p0_closes p0_sort) H := hP
      have hD : va_D A (wld_X10_close cI cJ cZ h_p0 ad_p0 p0_places p0_steps p0_pastFirst p0_past p0_goings p0_rowSize p0_ways p0_hasField p0_fieldSize p0_faultNow p0_hasTree p0_treeSize p0_weightCount p0_roundCount p0_setCount p0_closes p0_sort) := hD
      refine lv_if_ne (tgt := 28) hx hb dX10_close_22 (by decide) (fun c8 => ?_) (fun c9 => ?_)
      · have hw := hw.1 c8
        refine lv_aload_n hx hb dX10_close_28 rfl (lv_at hl 0 rfl) ?_
        refine va_get (D := (dC, dI)) (ci := 10) (v := .ref (ad_p0 3)) (C := RX10) (T := TX10) (N := 50) hx hb hts iX10 hown hK hP 0 rfl rfl 3 (by decide) (hts (.fieldLink RX10 13 "NetHouseModel" "sort" "[I") (by decide +kernel)) (fun _ h9 => h9) rfl dX10_close_29 ?_
        refine lv_iload_n hx hb dX10_close_32 rfl (lv_at hl 1 rfl) ?_
        refine va_iald hx hb hK hP 2 0 rfl rfl hw.1 dX10_close_33 ?_
        have hw := hw.2
        refine lv_iconst (v := 2) hx hb dX10_close_34 (by decide) ?_
        refine lv_icmp_ge (tgt := 41) hx hb dX10_close_35 (by decide) (fun c10 => ?_) (fun c11 => ?_)
        · have hw := hw.1 c10
          refine lv_aload_n hx hb dX10_close_41 rfl (lv_at hl 0 rfl) ?_
          obtain ⟨hPc, hDc⟩ := x_sub (wc := (wld_X10_changed cI cJ cZ h_p0 ad_p0 p0_places p0_steps p0_pastFirst p0_past p0_goings p0_rowSize p0_ways p0_hasField p0_fieldSize p0_faultNow p0_hasTree p0_treeSize p0_weightCount p0_roundCount p0_setCount)) hP hD [0] (n := 3) rfl rfl (by decide +kernel)
          refine x_callv (ws' := fun (u : (Int32) × (Int32) × (Int32) × (Int32) × (Int32) × (Int32) × (Int32) × (Int32)) => (wld_X10_close cI cJ cZ h_p0 ad_p0 p0_places p0_steps p0_pastFirst (u.2.2.2.1) p0_goings p0_rowSize p0_ways (u.2.1) (u.1) p0_faultNow (u.2.2.1) (u.2.2.2.2.2.2.1) (u.2.2.2.2.2.2.2) (u.2.2.2.2.1) (u.2.2.2.2.2.1) p0_closes p0_sort)) hP hD hS hA [0] [1, 2] [2, 0, 1] (n := 3) (k := 1) rfl (fun _ => rfl) rfl (by decide +kernel) (fun _ => rfl) (va_runV (As := []) (rest := []) ⟨hx, hb, hml, hown, hts⟩ (c_X10_changed (l := l) (dC := dC) (dI := dI) (cI := cI) (cJ := cJ) (cZ := cZ) (sz := H.size) (h_p0 := h_p0) (ad_p0 := ad_p0) (p0_places := p0_places) (p0_steps := p0_steps) (p0_pastFirst := p0_pastFirst) (p0_past := p0_past) (p0_goings := p0_goings) (p0_rowSize := p0_rowSize) (p0_ways := p0_ways) (p0_hasField := p0_hasField) (p0_fieldSize := p0_fieldSize) (p0_faultNow := p0_faultNow) (p0_hasTree := p0_hasTree) (p0_treeSize := p0_treeSize) (p0_weightCount := p0_weightCount) (p0_roundCount := p0_roundCount) (p0_setCount := p0_setCount) hw) (cwV 0 hts gX10_close_X10_changed rfl rfl rfl (by decide +kernel) ⟨Nat.le_of_ble_eq_true rfl, Nat.le_of_ble_eq_true rfl⟩) ⟨xPre_blind, va_recv hK hP (ci := 10) (q0 := 0) rfl rfl, xPre_at hK hPc hDc n1 n2⟩ rfl rfl hl.1 rfl (lv_room (Nat.le_of_ble_eq_true rfl)) dX10_close_42 ⟨Nat.zero_le _, Nat.zero_le _⟩) (fun u H locs hw hP hD hS => ?_)
          obtain ⟨y12, y13, y14, y15, y16, y17, y18, y19⟩ := u
          try dsimp only at hw
          have hP : va_P (dC, dI) vwCl (wld_X10_close cI cJ cZ h_p0 ad_p0 p0_places p0_steps p0_pastFirst y15 p0_goings p0_rowSize p0_ways y13 y12 p0_faultNow y14 y18 y19 y16 y17 p0_closes p0_sort) H := hP
          have hD : va_D A (wld_X10_close cI cJ cZ h_p0 ad_p0 p0_places p0_steps p0_pastFirst y15 p0_goings p0_rowSize p0_ways y13 y12 p0_faultNow y14 y18 y19 y16 y17 p0_closes p0_sort) := hD
          refine lv_aload_n hx hb dX10_close_45 rfl (lv_at hl 0 rfl) ?_
          refine va_get (D := (dC, dI)) (ci := 10) (v := .ref (ad_p0 7)) (C := RX10) (T := TX10) (N := 50) hx hb hts iX10 hown hK hP 0 rfl rfl 7 (by decide) (hts (.fieldLink RX10 25 "NetHouseModel" "closes" "[I") (by decide +kernel)) (fun _ h9 => h9) rfl dX10_close_46 ?_
          refine lv_bipush (v := 16) hx hb dX10_close_49 (by decide) ?_
          refine lv_iload_n hx hb dX10_close_51 rfl (lv_at hl 1 rfl) ?_
          refine lv_imul hx hb dX10_close_52 ?_
          refine lv_iload_n hx hb dX10_close_53 rfl (lv_at hl 2 rfl) ?_
          refine lv_iadd hx hb dX10_close_54 ?_
          refine lv_iload_n hx hb dX10_close_55 rfl (lv_at hl 3 rfl) ?_
          refine va_iast hx hb hK hP hD hS 1 0 rfl rfl hw.1 dX10_close_56 (fun H locs hP hD hS => ?_)
          have hw := hw.2
          have hP : va_P (dC, dI) vwCl (wld_X10_close cI cJ cZ h_p0 ad_p0 p0_places p0_steps p0_pastFirst y15 p0_goings p0_rowSize p0_ways y13 y12 p0_faultNow y14 y18 y19 y16 y17 (upd p0_closes (((16 : Int32) * a1) + a2).toNatClampNeg a3) p0_sort) H := hP
          have hD : va_D A (wld_X10_close cI cJ cZ h_p0 ad_p0 p0_places p0_steps p0_pastFirst y15 p0_goings p0_rowSize p0_ways y13 y12 p0_faultNow y14 y18 y19 y16 y17 (upd p0_closes (((16 : Int32) * a1) + a2).toNatClampNeg a3) p0_sort) := hD
          refine lv_iconst (v := 0) hx hb dX10_close_57 (by decide) ?_
          exact x_iret (w1 := fun (u : (Int32) × (Int32) × (Int32) × (Int32) × (Int32) × (Int32) × (Int32) × (Int32) × (Nat → Int32)) => (wld_X10_close cI cJ cZ h_p0 ad_p0 p0_places p0_steps p0_pastFirst (u.2.2.2.1) p0_goings p0_rowSize p0_ways (u.2.1) (u.1) p0_faultNow (u.2.2.1) (u.2.2.2.2.2.2.1) (u.2.2.2.2.2.2.2.1) (u.2.2.2.2.1) (u.2.2.2.2.2.1) (u.2.2.2.2.2.2.2.2) p0_sort)) hx hb hr hlocks (y12, y13, y14, y15, y16, y17, y18, y19, (upd p0_closes (((16 : Int32) * a1) + a2).toNatClampNeg a3)) hw hP hD hS dX10_close_58
        · have hw := hw.2 c11
          refine lv_ldc (v := -2000000002) hx hb hown (hts (.constant RX10 171 (-2000000002)) (by decide +kernel)) dX10_close_38 ?_
          exact x_iret (w1 := fun (u : (Int32) × (Int32) × (Int32) × (Int32) × (Int32) × (Int32) × (Int32) × (Int32) × (Nat → Int32)) => (wld_X10_close cI cJ cZ h_p0 ad_p0 p0_places p0_steps p0_pastFirst (u.2.2.2.1) p0_goings p0_rowSize p0_ways (u.2.1) (u.1) p0_faultNow (u.2.2.1) (u.2.2.2.2.2.2.1) (u.2.2.2.2.2.2.2.1) (u.2.2.2.2.1) (u.2.2.2.2.2.1) (u.2.2.2.2.2.2.2.2) p0_sort)) hx hb hr hlocks (p0_fieldSize, p0_hasField, p0_hasTree, p0_past, p0_roundCount, p0_setCount, p0_treeSize, p0_weightCount, p0_closes) hw hP hD hS dX10_close_40
      · have hw := hw.2 c9
        refine lv_ldc (v := -2000000001) hx hb hown (hts (.constant RX10 159 (-2000000001)) (by decide +kernel)) dX10_close_25 ?_
        exact x_iret (w1 := fun (u : (Int32) × (Int32) × (Int32) × (Int32) × (Int32) × (Int32) × (Int32) × (Int32) × (Nat → Int32)) => (wld_X10_close cI cJ cZ h_p0 ad_p0 p0_places p0_steps p0_pastFirst (u.2.2.2.1) p0_goings p0_rowSize p0_ways (u.2.1) (u.1) p0_faultNow (u.2.2.1) (u.2.2.2.2.2.2.1) (u.2.2.2.2.2.2.2.1) (u.2.2.2.2.1) (u.2.2.2.2.2.1) (u.2.2.2.2.2.2.2.2) p0_sort)) hx hb hr hlocks (p0_fieldSize, p0_hasField, p0_hasTree, p0_past, p0_roundCount, p0_setCount, p0_treeSize, p0_weightCount, p0_closes) hw hP hD hS dX10_close_27
abbrev wld_X10_want (cI cJ cZ : ClassId) (h_p0 : Nat) (ad_p0 : Nat → Nat) (p0_places : Int32) (p0_steps : Int32) (p0_pastFirst : Int32) (p0_past : Int32) (p0_goings : Int32) (p0_rowSize : Int32) (p0_ways : Int32) (p0_hasField : Int32) (p0_fieldSize : Int32) (p0_faultNow : Int32) (p0_hasTree : Int32) (p0_treeSize : Int32) (p0_weightCount : Int32) (p0_roundCount : Int32) (p0_setCount : Int32) (p0_colour : Nat → Int32) (p0_gifts : Nat → Int32) (p0_wants : Nat → Int32) : va_W := [(h_p0, .inr (10, [.int p0_places, .int p0_steps, .ref (ad_p0 2), .ref (ad_p0 3), .ref (ad_p0 4), .ref (ad_p0 5), .ref (ad_p0 6), .ref (ad_p0 7), .ref (ad_p0 8), .ref (ad_p0 9), .ref (ad_p0 10), .ref (ad_p0 11), .ref (ad_p0 12), .ref (ad_p0 13), .ref (ad_p0 14), .int p0_pastFirst, .int p0_past, .int p0_goings, .int p0_rowSize, .ref (ad_p0 19), .ref (ad_p0 20), .int p0_ways, .ref (ad_p0 22), .ref (ad_p0 23), .int p0_hasField, .int p0_fieldSize, .ref (ad_p0 26), .ref (ad_p0 27), .ref (ad_p0 28), .ref (ad_p0 29), .ref (ad_p0 30), .ref (ad_p0 31), .ref (ad_p0 32), .int p0_faultNow, .int p0_hasTree, .int p0_treeSize, .ref (ad_p0 36), .ref (ad_p0 37), .ref (ad_p0 38), .ref (ad_p0 39), .ref (ad_p0 40), .ref (ad_p0 41), .ref (ad_p0 42), .int p0_weightCount, .ref (ad_p0 44), .int p0_roundCount, .ref (ad_p0 46), .int p0_setCount, .ref (ad_p0 48), .ref (ad_p0 49)])), ((ad_p0 2), .inl (cI, 16, .inl p0_colour)), ((ad_p0 9), .inl (cI, 256, .inl p0_gifts)), ((ad_p0 8), .inl (cI, 256, .inl p0_wants))]
abbrev q_X10_want (dC : Nat → ClassId) (dI : Nat → Nat → Nat) (cI cJ cZ : ClassId) (h_p0 : Nat) (ad_p0 : Nat → Nat) (p0_places : Int32) (p0_steps : Int32) (p0_pastFirst : Int32) (p0_past : Int32) (p0_goings : Int32) (p0_rowSize : Int32) (p0_ways : Int32) (p0_hasField : Int32) (p0_fieldSize : Int32) (p0_faultNow : Int32) (p0_hasTree : Int32) (p0_treeSize : Int32) (p0_weightCount : Int32) (p0_roundCount : Int32) (p0_setCount : Int32) (p0_colour : Nat → Int32) (p0_gifts : Nat → Int32) (p0_wants : Nat → Int32) (post : Int32 → (Int32) → (Int32) → (Int32) → (Int32) → (Int32) → (Int32) → (Int32) → (Int32) → (Nat → Int32) → (Nat → Int32) → Prop) (A : Nat → Prop) : Array Value → State → Outcome → State → Prop := va_Qi (fun r (u : (Int32) × (Int32) × (Int32) × (Int32) × (Int32) × (Int32) × (Int32) × (Int32) × (Nat → Int32) × (Nat → Int32)) => post r (u.1) (u.2.1) (u.2.2.1) (u.2.2.2.1) (u.2.2.2.2.1) (u.2.2.2.2.2.1) (u.2.2.2.2.2.2.1) (u.2.2.2.2.2.2.2.1) (u.2.2.2.2.2.2.2.2.1) (u.2.2.2.2.2.2.2.2.2)) (fun (u : (Int32) × (Int32) × (Int32) × (Int32) × (Int32) × (Int32) × (Int32) × (Int32) × (Nat → Int32) × (Nat → Int32)) t => xPost (dC, dI) A (wld_X10_want cI cJ cZ h_p0 ad_p0 p0_places p0_steps p0_pastFirst (u.2.2.2.1) p0_goings p0_rowSize p0_ways (u.2.1) (u.1) p0_faultNow (u.2.2.1) (u.2.2.2.2.2.2.1) (u.2.2.2.2.2.2.2.1) (u.2.2.2.2.1) (u.2.2.2.2.2.1) p0_colour (u.2.2.2.2.2.2.2.2.1) (u.2.2.2.2.2.2.2.2.2)) t) A
def w_X10_want (p0_fieldSize : Int32) (p0_hasField : Int32) (p0_hasTree : Int32) (p0_past : Int32) (p0_places : Int32) (p0_roundCount : Int32) (p0_setCount : Int32) (p0_steps : Int32) (p0_treeSize : Int32) (p0_weightCount : Int32) (p0_colour : Nat → Int32) (p0_gifts : Nat → Int32) (p0_wants : Nat → Int32) (a1 : Int32) (a2 : Int32) (a3 : Int32) (a4 : Int32) (post : Int32 → (Int32) → (Int32) → (Int32) → (Int32) → (Int32) → (Int32) → (Int32) → (Int32) → (Nat → Int32) → (Nat → Int32) → Prop) : Prop :=
  w_X10_isStep p0_steps a1 (fun r1 =>
  (r1 = 0 →
    (post (-2000000001 : Int32) p0_fieldSize p0_hasField p0_hasTree p0_past p0_roundCount p0_setCount p0_treeSize p0_weightCount p0_gifts p0_wants)) ∧
  (¬ r1 = 0 →
    w_X10_isPlace p0_places a2 (fun r4 =>
    (r4 = 0 →
      (post (-2000000001 : Int32) p0_fieldSize p0_hasField p0_hasTree p0_past p0_roundCount p0_setCount p0_treeSize p0_weightCount p0_gifts p0_wants)) ∧
    (¬ r4 = 0 →
      w_X10_isIn a3 (0 : Int32) (3 : Int32) (fun r7 =>
      (r7 = 0 →
        (post (-2000000001 : Int32) p0_fieldSize p0_hasField p0_hasTree p0_past p0_roundCount p0_setCount p0_treeSize p0_weightCount p0_gifts p0_wants)) ∧
      (¬ r7 = 0 →
        w_X10_isIn a4 (0 : Int32) (3 : Int32) (fun r10 =>
        (¬ r10 = 0 →
          vp_in a2 16 ∧
          (¬ (p0_colour a2.toNatClampNeg) = 0 →
            w_X10_changed p0_fieldSize p0_hasField p0_hasTree p0_past p0_roundCount p0_setCount p0_treeSize p0_weightCount (fun y15 y16 y17 y18 y19 y20 y21 y22 =>
            vp_in (((16 : Int32) * a1) + a2) 256 ∧
            vp_in (((16 : Int32) * a1) + a2) 256 ∧
            (post (0 : Int32) y15 y16 y17 y18 y19 y20 y21 y22 (upd p0_gifts (((16 : Int32) * a1) + a2).toNatClampNeg a4) (upd p0_wants (((16 : Int32) * a1) + a2).toNatClampNeg a3)))) ∧
          ((p0_colour a2.toNatClampNeg) = 0 →
            (post (-2000000002 : Int32) p0_fieldSize p0_hasField p0_hasTree p0_past p0_roundCount p0_setCount p0_treeSize p0_weightCount p0_gifts p0_wants))) ∧
        (r10 = 0 →
          (post (-2000000001 : Int32) p0_fieldSize p0_hasField p0_hasTree p0_past p0_roundCount p0_setCount p0_treeSize p0_weightCount p0_gifts p0_wants)))))))))
set_option maxHeartbeats 4000000 in
set_option maxRecDepth 100000 in
theorem c_X10_want {l : Launch} {dC : Nat → ClassId} {dI : Nat → Nat → Nat} {sz : Nat} {cI cJ cZ : ClassId} {h_p0 : Nat} {ad_p0 : Nat → Nat} {p0_places : Int32} {p0_steps : Int32} {p0_pastFirst : Int32} {p0_past : Int32} {p0_goings : Int32} {p0_rowSize : Int32} {p0_ways : Int32} {p0_hasField : Int32} {p0_fieldSize : Int32} {p0_faultNow : Int32} {p0_hasTree : Int32} {p0_treeSize : Int32} {p0_weightCount : Int32} {p0_roundCount : Int32} {p0_setCount : Int32} {p0_colour : Nat → Int32} {p0_gifts : Nat → Int32} {p0_wants : Nat → Int32} {a1 : Int32} {a2 : Int32} {a3 : Int32} {a4 : Int32} {post : Int32 → (Int32) → (Int32) → (Int32) → (Int32) → (Int32) → (Int32) → (Int32) → (Int32) → (Nat → Int32) → (Nat → Int32) → Prop} (hw : w_X10_want p0_fieldSize p0_hasField p0_hasTree p0_past p0_places p0_roundCount p0_setCount p0_steps p0_treeSize p0_weightCount p0_colour p0_gifts p0_wants a1 a2 a3 a4 post) : Met l yX10_want wsX10_want ({ frames := 1, cells := 0, slots := 0, locals := 22 }) (va_Pc [.ref h_p0, .int a1, .int a2, .int a3, .int a4] (xPre (dC, dI) cI cJ cZ (wld_X10_want cI cJ cZ h_p0 ad_p0 p0_places p0_steps p0_pastFirst p0_past p0_goings p0_rowSize p0_ways p0_hasField p0_fieldSize p0_faultNow p0_hasTree p0_treeSize p0_weightCount p0_roundCount p0_setCount p0_colour p0_gifts p0_wants) sz)) (q_X10_want dC dI cI cJ cZ h_p0 ad_p0 p0_places p0_steps p0_pastFirst p0_past p0_goings p0_rowSize p0_ways p0_hasField p0_fieldSize p0_faultNow p0_hasTree p0_treeSize p0_weightCount p0_roundCount p0_setCount p0_colour p0_gifts p0_wants post (va_A (wld_X10_want cI cJ cZ h_p0 ad_p0 p0_places p0_steps p0_pastFirst p0_past p0_goings p0_rowSize p0_ways p0_hasField p0_fieldSize p0_faultNow p0_hasTree p0_treeSize p0_weightCount p0_roundCount p0_setCount p0_colour p0_gifts p0_wants) sz)) 0 0 (va_A (wld_X10_want cI cJ cZ h_p0 ad_p0 p0_places p0_steps p0_pastFirst p0_past p0_goings p0_rowSize p0_ways p0_hasField p0_fieldSize p0_faultNow p0_hasTree p0_treeSize p0_weightCount p0_roundCount p0_setCount p0_colour p0_gifts p0_wants) sz) := by
  refine x_met (cc := cX10_want) (maxL := 5) (ret := (some .int)) (own := RX10) (Qc := fun A => (q_X10_want dC dI cI cJ cZ h_p0 ad_p0 p0_places p0_steps p0_pastFirst p0_past p0_goings p0_rowSize p0_ways p0_hasField p0_fieldSize p0_faultNow p0_hasTree p0_treeSize p0_weightCount p0_roundCount p0_setCount p0_colour p0_gifts p0_wants post A)) (by decide) rfl rfl (Nat.le_of_ble_eq_true rfl) ?_
  intro p e s m args below meth c A ls E0 hP hD hS hl
  obtain ⟨hx, hb, hr, hml, hown, hts, hlocks, hK, hA, n1, n2⟩ := id E0
  have iX10 : ∀ w ∈ u_ws RX10 TX10 50, w ∈ wsX10_want := fun w h => List.mem_cons_of_mem _ (List.mem_append_right _ h)
  have hS0 := hS
  have hl : lv_has ls 5 [(0, .ref h_p0), (1, .int a1), (2, .int a2), (3, .int a3), (4, .int a4)] := hl
  unfold w_X10_want at hw
  obtain ⟨H, hH⟩ : ∃ H, H = s.heap := ⟨_, rfl⟩
  have hS : va_S A s.heap H [] := by rw [hH]; exact hS
  have hP : va_P (dC, dI) vwCl (wld_X10_want cI cJ cZ h_p0 ad_p0 p0_places p0_steps p0_pastFirst p0_past p0_goings p0_rowSize p0_ways p0_hasField p0_fieldSize p0_faultNow p0_hasTree p0_treeSize p0_weightCount p0_roundCount p0_setCount p0_colour p0_gifts p0_wants) H := by rw [hH]; exact hP
  suffices hG : W p l e ({ frames := 1, cells := 0, slots := 0, locals := 22 }) s m args below meth c H [] 0 0 (MQ below (q_X10_want dC dI cI cJ cZ h_p0 ad_p0 p0_places p0_steps p0_pastFirst p0_past p0_goings p0_rowSize p0_ways p0_hasField p0_fieldSize p0_faultNow p0_hasTree p0_treeSize p0_weightCount p0_roundCount p0_setCount p0_colour p0_gifts p0_wants post A) args s 0 0 A) (F0 m 0 ls []) by rw [hH] at hG; exact hG
  clear hH
  refine lv_aload_n hx hb dX10_want_0 rfl (lv_at hl 0 rfl) ?_
  refine lv_iload_n hx hb dX10_want_1 rfl (lv_at hl 1 rfl) ?_
  obtain ⟨hPc, hDc⟩ := x_sub (wc := (wld_X10_isStep cI cJ cZ h_p0 ad_p0 p0_places p0_steps p0_pastFirst p0_past p0_goings p0_rowSize p0_ways p0_hasField p0_fieldSize p0_faultNow p0_hasTree p0_treeSize p0_weightCount p0_roundCount p0_setCount)) hP hD [0] (n := 4) rfl rfl (by decide +kernel)
  refine x_calli (ws' := fun (u : Unit) => (wld_X10_want cI cJ cZ h_p0 ad_p0 p0_places p0_steps p0_pastFirst p0_past p0_goings p0_rowSize p0_ways p0_hasField p0_fieldSize p0_faultNow p0_hasTree p0_treeSize p0_weightCount p0_roundCount p0_setCount p0_colour p0_gifts p0_wants)) hP hD hS hA [0] [1, 2, 3] [3, 0, 1, 2] (n := 4) (k := 1) rfl (fun _ => rfl) rfl (by decide +kernel) (fun _ => rfl) (va_runV (As := [.int a1]) (rest := []) ⟨hx, hb, hml, hown, hts⟩ (c_X10_isStep (l := l) (dC := dC) (dI := dI) (cI := cI) (cJ := cJ) (cZ := cZ) (sz := H.size) (h_p0 := h_p0) (ad_p0 := ad_p0) (p0_places := p0_places) (p0_steps := p0_steps) (p0_pastFirst := p0_pastFirst) (p0_past := p0_past) (p0_goings := p0_goings) (p0_rowSize := p0_rowSize) (p0_ways := p0_ways) (p0_hasField := p0_hasField) (p0_fieldSize := p0_fieldSize) (p0_faultNow := p0_faultNow) (p0_hasTree := p0_hasTree) (p0_treeSize := p0_treeSize) (p0_weightCount := p0_weightCount) (p0_roundCount := p0_roundCount) (p0_setCount := p0_setCount) hw) (cwV 1 hts gX10_want_X10_isStep rfl rfl rfl (by decide +kernel) ⟨Nat.le_of_ble_eq_true rfl, Nat.le_of_ble_eq_true rfl⟩) ⟨xPre_blind, va_recv hK hP (ci := 10) (q0 := 0) rfl rfl, xPre_at hK hPc hDc n1 n2⟩ rfl rfl hl.1 rfl (lv_room (Nat.le_of_ble_eq_true rfl)) dX10_want_2 ⟨Nat.zero_le _, Nat.zero_le _⟩) (fun r1 u H locs hw hP hD hS => ?_)
  try dsimp only at hw
  have hP : va_P (dC, dI) vwCl (wld_X10_want cI cJ cZ h_p0 ad_p0 p0_places p0_steps p0_pastFirst p0_past p0_goings p0_rowSize p0_ways p0_hasField p0_fieldSize p0_faultNow p0_hasTree p0_treeSize p0_weightCount p0_roundCount p0_setCount p0_colour p0_gifts p0_wants) H := hP
  have hD : va_D A (wld_X10_want cI cJ cZ h_p0 ad_p0 p0_places p0_steps p0_pastFirst p0_past p0_goings p0_rowSize p0_ways p0_hasField p0_fieldSize p0_faultNow p0_hasTree p0_treeSize p0_weightCount p0_roundCount p0_setCount p0_colour p0_gifts p0_wants) := hD
  refine lv_if_eq (tgt := 35) hx hb dX10_want_5 (by decide) (fun c2 => ?_) (fun c3 => ?_)
  · have hw := hw.1 c2
    refine lv_ldc (v := -2000000001) hx hb hown (hts (.constant RX10 159 (-2000000001)) (by decide +kernel)) dX10_want_35 ?_
    exact x_iret (w1 := fun (u : (Int32) × (Int32) × (Int32) × (Int32) × (Int32) × (Int32) × (Int32) × (Int32) × (Nat → Int32) × (Nat → Int32)) => (wld_X10_want cI cJ cZ h_p0 ad_p0 p0_places p0_steps p0_pastFirst (u.2.2.2.1) p0_goings p0_rowSize p0_ways (u.2.1) (u.1) p0_faultNow (u.2.2.1) (u.2.2.2.2.2.2.1) (u.2.2.2.2.2.2.2.1) (u.2.2.2.2.1) (u.2.2.2.2.2.1) p0_colour (u.2.2.2.2.2.2.2.2.1) (u.2.2.2.2.2.2.2.2.2))) hx hb hr hlocks (p0_fieldSize, p0_hasField, p0_hasTree, p0_past, p0_roundCount, p0_setCount, p0_treeSize, p0_weightCount, p0_gifts, p0_wants) hw hP hD hS dX10_want_37
  · have hw := hw.2 c3
    refine lv_aload_n hx hb dX10_want_8 rfl (lv_at hl 0 rfl) ?_
    refine lv_iload_n hx hb dX10_want_9 rfl (lv_at hl 2 rfl) ?_
    obtain ⟨hPc, hDc⟩ := x_sub (wc := (wld_X10_isPlace cI cJ cZ h_p0 ad_p0 p0_places p0_steps p0_pastFirst p0_past p0_goings p0_rowSize p0_ways p0_hasField p0_fieldSize p0_faultNow p0_hasTree p0_treeSize p0_weightCount p0_roundCount p0_setCount)) hP hD [0] (n := 4) rfl rfl (by decide +kernel)
    refine x_calli (ws' := fun (u : Unit) => (wld_X10_want cI cJ cZ h_p0 ad_p0 p0_places p0_steps p0_pastFirst p0_past p0_goings p0_rowSize p0_ways p0_hasField p0_fieldSize p0_faultNow p0_hasTree p0_treeSize p0_weightCount p0_roundCount p0_setCount p0_colour p0_gifts p0_wants)) hP hD hS hA [0] [1, 2, 3] [3, 0, 1, 2] (n := 4) (k := 1) rfl (fun _ => rfl) rfl (by decide +kernel) (fun _ => rfl) (va_runV (As := [.int a2]) (rest := []) ⟨hx, hb, hml, hown, hts⟩ (c_X10_isPlace (l := l) (dC := dC) (dI := dI) (cI := cI) (cJ := cJ) (cZ := cZ) (sz := H.size) (h_p0 := h_p0) (ad_p0 := ad_p0) (p0_places := p0_places) (p0_steps := p0_steps) (p0_pastFirst := p0_pastFirst) (p0_past := p0_past) (p0_goings := p0_goings) (p0_rowSize := p0_rowSize) (p0_ways := p0_ways) (p0_hasField := p0_hasField) (p0_fieldSize := p0_fieldSize) (p0_faultNow := p0_faultNow) (p0_hasTree := p0_hasTree) (p0_treeSize := p0_treeSize) (p0_weightCount := p0_weightCount) (p0_roundCount := p0_roundCount) (p0_setCount := p0_setCount) hw) (cwV 1 hts gX10_want_X10_isPlace rfl rfl rfl (by decide +kernel) ⟨Nat.le_of_ble_eq_true rfl, Nat.le_of_ble_eq_true rfl⟩) ⟨xPre_blind, va_recv hK hP (ci := 10) (q0 := 0) rfl rfl, xPre_at hK hPc hDc n1 n2⟩ rfl rfl hl.1 rfl (lv_room (Nat.le_of_ble_eq_true rfl)) dX10_want_10 ⟨Nat.zero_le _, Nat.zero_le _⟩) (fun r4 u H locs hw hP hD hS => ?_)
    try dsimp only at hw
    have hP : va_P (dC, dI) vwCl (wld_X10_want cI cJ cZ h_p0 ad_p0 p0_places p0_steps p0_pastFirst p0_past p0_goings p0_rowSize p0_ways p0_hasField p0_fieldSize p0_faultNow p0_hasTree p0_treeSize p0_weightCount p0_roundCount p0_setCount p0_colour p0_gifts p0_wants) H := hP
    have hD : va_D A (wld_X10_want cI cJ cZ h_p0 ad_p0 p0_places p0_steps p0_pastFirst p0_past p0_goings p0_rowSize p0_ways p0_hasField p0_fieldSize p0_faultNow p0_hasTree p0_treeSize p0_weightCount p0_roundCount p0_setCount p0_colour p0_gifts p0_wants) := hD
    refine lv_if_eq (tgt := 35) hx hb dX10_want_13 (by decide) (fun c5 => ?_) (fun c6 => ?_)
    · have hw := hw.1 c5
      refine lv_ldc (v := -2000000001) hx hb hown (hts (.constant RX10 159 (-2000000001)) (by decide +kernel)) dX10_want_35 ?_
      exact x_iret (w1 := fun (u : (Int32) × (Int32) × (Int32) × (Int32) × (Int32) × (Int32) × (Int32) × (Int32) × (Nat → Int32) × (Nat → Int32)) => (wld_X10_want cI cJ cZ h_p0 ad_p0 p0_places p0_steps p0_pastFirst (u.2.2.2.1) p0_goings p0_rowSize p0_ways (u.2.1) (u.1) p0_faultNow (u.2.2.1) (u.2.2.2.2.2.2.1) (u.2.2.2.2.2.2.2.1) (u.2.2.2.2.1) (u.2.2.2.2.2.1) p0_colour (u.2.2.2.2.2.2.2.2.1) (u.2.2.2.2.2.2.2.2.2))) hx hb hr hlocks (p0_fieldSize, p0_hasField, p0_hasTree, p0_past, p0_roundCount, p0_setCount, p0_treeSize, p0_weightCount, p0_gifts, p0_wants) hw hP hD hS dX10_want_37
    · have hw := hw.2 c6
      refine lv_iload_n hx hb dX10_want_16 rfl (lv_at hl 3 rfl) ?_
      refine lv_iconst (v := 0) hx hb dX10_want_17 (by decide) ?_
      refine lv_iconst (v := 3) hx hb dX10_want_18 (by decide) ?_
      obtain ⟨hPc, hDc⟩ := x_sub (wc := (wld_X10_isIn cI cJ cZ )) hP hD [] (n := 4) rfl rfl (by decide +kernel)
      refine x_calli (ws' := fun (u : Unit) => (wld_X10_want cI cJ cZ h_p0 ad_p0 p0_places p0_steps p0_pastFirst p0_past p0_goings p0_rowSize p0_ways p0_hasField p0_fieldSize p0_faultNow p0_hasTree p0_treeSize p0_weightCount p0_roundCount p0_setCount p0_colour p0_gifts p0_wants)) hP hD hS hA [] [0, 1, 2, 3] [0, 1, 2, 3] (n := 4) (k := 0) rfl (fun _ => rfl) rfl (by decide +kernel) (fun _ => rfl) (va_runS (As := [.int a3, .int (0 : Int32), .int (3 : Int32)]) (rest := []) ⟨hx, hb, hml, hown, hts⟩ (c_X10_isIn (l := l) (dC := dC) (dI := dI) (cI := cI) (cJ := cJ) (cZ := cZ) (sz := H.size) hw) (va_cwS 3 hts gX10_want_X10_isIn rfl rfl rfl (by decide +kernel) ⟨Nat.le_of_ble_eq_true rfl, Nat.le_of_ble_eq_true rfl⟩) ⟨xPre_blind, xPre_at hK hPc hDc n1 n2⟩ rfl rfl hl.1 rfl (lv_room (Nat.le_of_ble_eq_true rfl)) dX10_want_19 ⟨Nat.zero_le _, Nat.zero_le _⟩) (fun r7 u H locs hw hP hD hS => ?_)
      try dsimp only at hw
      have hP : va_P (dC, dI) vwCl (wld_X10_want cI cJ cZ h_p0 ad_p0 p0_places p0_steps p0_pastFirst p0_past p0_goings p0_rowSize p0_ways p0_hasField p0_fieldSize p0_faultNow p0_hasTree p0_treeSize p0_weightCount p0_roundCount p0_setCount p0_colour p0_gifts p0_wants) H := hP
      have hD : va_D A (wld_X10_want cI cJ cZ h_p0 ad_p0 p0_places p0_steps p0_pastFirst p0_past p0_goings p0_rowSize p0_ways p0_hasField p0_fieldSize p0_faultNow p0_hasTree p0_treeSize p0_weightCount p0_roundCount p0_setCount p0_colour p0_gifts p0_wants) := hD
      refine lv_if_eq (tgt := 35) hx hb dX10_want_22 (by decide) (fun c8 => ?_) (fun c9 => ?_)
      · have hw := hw.1 c8
        refine lv_ldc (v := -2000000001) hx hb hown (hts (.constant RX10 159 (-2000000001)) (by decide +kernel)) dX10_want_35 ?_
        exact x_iret (w1 := fun (u : (Int32) × (Int32) × (Int32) × (Int32) × (Int32) × (Int32) × (Int32) × (Int32) × (Nat → Int32) × (Nat → Int32)) => (wld_X10_want cI cJ cZ h_p0 ad_p0 p0_places p0_steps p0_pastFirst (u.2.2.2.1) p0_goings p0_rowSize p0_ways (u.2.1) (u.1) p0_faultNow (u.2.2.1) (u.2.2.2.2.2.2.1) (u.2.2.2.2.2.2.2.1) (u.2.2.2.2.1) (u.2.2.2.2.2.1) p0_colour (u.2.2.2.2.2.2.2.2.1) (u.2.2.2.2.2.2.2.2.2))) hx hb hr hlocks (p0_fieldSize, p0_hasField, p0_hasTree, p0_past, p0_roundCount, p0_setCount, p0_treeSize, p0_weightCount, p0_gifts, p0_wants) hw hP hD hS dX10_want_37
      · have hw := hw.2 c9
        refine lv_iload hx hb dX10_want_25 (lv_at hl 4 rfl) ?_
        refine lv_iconst (v := 0) hx hb dX10_want_27 (by decide) ?_
        refine lv_iconst (v := 3) hx hb dX10_want_28 (by decide) ?_
        obtain ⟨hPc, hDc⟩ := x_sub (wc := (wld_X10_isIn cI cJ cZ )) hP hD [] (n := 4) rfl rfl (by decide +kernel)
        refine x_calli (ws' := fun (u : Unit) => (wld_X10_want cI cJ cZ h_p0 ad_p0 p0_places p0_steps p0_pastFirst p0_past p0_goings p0_rowSize p0_ways p0_hasField p0_fieldSize p0_faultNow p0_hasTree p0_treeSize p0_weightCount p0_roundCount p0_setCount p0_colour p0_gifts p0_wants)) hP hD hS hA [] [0, 1, 2, 3] [0, 1, 2, 3] (n := 4) (k := 0) rfl (fun _ => rfl) rfl (by decide +kernel) (fun _ => rfl) (va_runS (As := [.int a4, .int (0 : Int32), .int (3 : Int32)]) (rest := []) ⟨hx, hb, hml, hown, hts⟩ (c_X10_isIn (l := l) (dC := dC) (dI := dI) (cI := cI) (cJ := cJ) (cZ := cZ) (sz := H.size) hw) (va_cwS 3 hts gX10_want_X10_isIn rfl rfl rfl (by decide +kernel) ⟨Nat.le_of_ble_eq_true rfl, Nat.le_of_ble_eq_true rfl⟩) ⟨xPre_blind, xPre_at hK hPc hDc n1 n2⟩ rfl rfl hl.1 rfl (lv_room (Nat.le_of_ble_eq_true rfl)) dX10_want_29 ⟨Nat.zero_le _, Nat.zero_le _⟩) (fun r10 u H locs hw hP hD hS => ?_)
        try dsimp only at hw
        have hP : va_P (dC, dI) vwCl (wld_X10_want cI cJ cZ h_p0 ad_p0 p0_places p0_steps p0_pastFirst p0_past p0_goings p0_rowSize p0_ways p0_hasField p0_fieldSize p0_faultNow p0_hasTree p0_treeSize p0_weightCount p0_roundCount p0_setCount p0_colour p0_gifts p0_wants) H := hP
        have hD : va_D A (wld_X10_want cI cJ cZ h_p0 ad_p0 p0_places p0_steps p0_pastFirst p0_past p0_goings p0_rowSize p0_ways p0_hasField p0_fieldSize p0_faultNow p0_hasTree p0_treeSize p0_weightCount p0_roundCount p0_setCount p0_colour p0_gifts p0_wants) := hD
        refine lv_if_ne (tgt := 38) hx hb dX10_want_32 (by decide) (fun c11 => ?_) (fun c12 => ?_)
        · have hw := hw.1 c11
          refine lv_aload_n hx hb dX10_want_38 rfl (lv_at hl 0 rfl) ?_
          refine va_get (D := (dC, dI)) (ci := 10) (v := .ref (ad_p0 2)) (C := RX10) (T := TX10) (N := 50) hx hb hts iX10 hown hK hP 0 rfl rfl 2 (by decide) (hts (.fieldLink RX10 7 "NetHouseModel" "colour" "[I") (by decide +kernel)) (fun _ h9 => h9) rfl dX10_want_39 ?_
          refine lv_iload_n hx hb dX10_want_42 rfl (lv_at hl 2 rfl) ?_
          refine va_iald hx hb hK hP 1 0 rfl rfl hw.1 dX10_want_43 ?_
          have hw := hw.2
          refine lv_if_ne (tgt := 50) hx hb dX10_want_44 (by decide) (fun c13 => ?_) (fun c14 => ?_)
          · have hw := hw.1 c13
            refine lv_aload_n hx hb dX10_want_50 rfl (lv_at hl 0 rfl) ?_
            obtain ⟨hPc, hDc⟩ := x_sub (wc := (wld_X10_changed cI cJ cZ h_p0 ad_p0 p0_places p0_steps p0_pastFirst p0_past p0_goings p0_rowSize p0_ways p0_hasField p0_fieldSize p0_faultNow p0_hasTree p0_treeSize p0_weightCount p0_roundCount p0_setCount)) hP hD [0] (n := 4) rfl rfl (by decide +kernel)
            refine x_callv (ws' := fun (u : (Int32) × (Int32) × (Int32) × (Int32) × (Int32) × (Int32) × (Int32) × (Int32)) => (wld_X10_want cI cJ cZ h_p0 ad_p0 p0_places p0_steps p0_pastFirst (u.2.2.2.1) p0_goings p0_rowSize p0_ways (u.2.1) (u.1) p0_faultNow (u.2.2.1) (u.2.2.2.2.2.2.1) (u.2.2.2.2.2.2.2) (u.2.2.2.2.1) (u.2.2.2.2.2.1) p0_colour p0_gifts p0_wants)) hP hD hS hA [0] [1, 2, 3] [3, 0, 1, 2] (n := 4) (k := 1) rfl (fun _ => rfl) rfl (by decide +kernel) (fun _ => rfl) (va_runV (As := []) (rest := []) ⟨hx, hb, hml, hown, hts⟩ (c_X10_changed (l := l) (dC := dC) (dI := dI) (cI := cI) (cJ := cJ) (cZ := cZ) (sz := H.size) (h_p0 := h_p0) (ad_p0 := ad_p0) (p0_places := p0_places) (p0_steps := p0_steps) (p0_pastFirst := p0_pastFirst) (p0_past := p0_past) (p0_goings := p0_goings) (p0_rowSize := p0_rowSize) (p0_ways := p0_ways) (p0_hasField := p0_hasField) (p0_fieldSize := p0_fieldSize) (p0_faultNow := p0_faultNow) (p0_hasTree := p0_hasTree) (p0_treeSize := p0_treeSize) (p0_weightCount := p0_weightCount) (p0_roundCount := p0_roundCount) (p0_setCount := p0_setCount) hw) (cwV 0 hts gX10_want_X10_changed rfl rfl rfl (by decide +kernel) ⟨Nat.le_of_ble_eq_true rfl, Nat.le_of_ble_eq_true rfl⟩) ⟨xPre_blind, va_recv hK hP (ci := 10) (q0 := 0) rfl rfl, xPre_at hK hPc hDc n1 n2⟩ rfl rfl hl.1 rfl (lv_room (Nat.le_of_ble_eq_true rfl)) dX10_want_51 ⟨Nat.zero_le _, Nat.zero_le _⟩) (fun u H locs hw hP hD hS => ?_)
            obtain ⟨y15, y16, y17, y18, y19, y20, y21, y22⟩ := u
            try dsimp only at hw
            have hP : va_P (dC, dI) vwCl (wld_X10_want cI cJ cZ h_p0 ad_p0 p0_places p0_steps p0_pastFirst y18 p0_goings p0_rowSize p0_ways y16 y15 p0_faultNow y17 y21 y22 y19 y20 p0_colour p0_gifts p0_wants) H := hP
            have hD : va_D A (wld_X10_want cI cJ cZ h_p0 ad_p0 p0_places p0_steps p0_pastFirst y18 p0_goings p0_rowSize p0_ways y16 y15 p0_faultNow y17 y21 y22 y19 y20 p0_colour p0_gifts p0_wants) := hD
            refine lv_aload_n hx hb dX10_want_54 rfl (lv_at hl 0 rfl) ?_
            refine va_get (D := (dC, dI)) (ci := 10) (v := .ref (ad_p0 8)) (C := RX10) (T := TX10) (N := 50) hx hb hts iX10 hown hK hP 0 rfl rfl 8 (by decide) (hts (.fieldLink RX10 28 "NetHouseModel" "wants" "[I") (by decide +kernel)) (fun _ h9 => h9) rfl dX10_want_55 ?_
            refine lv_bipush (v := 16) hx hb dX10_want_58 (by decide) ?_
            refine lv_iload_n hx hb dX10_want_60 rfl (lv_at hl 1 rfl) ?_
            refine lv_imul hx hb dX10_want_61 ?_
            refine lv_iload_n hx hb dX10_want_62 rfl (lv_at hl 2 rfl) ?_
            refine lv_iadd hx hb dX10_want_63 ?_
            refine lv_iload_n hx hb dX10_want_64 rfl (lv_at hl 3 rfl) ?_
            refine va_iast hx hb hK hP hD hS 3 0 rfl rfl hw.1 dX10_want_65 (fun H locs hP hD hS => ?_)
            have hw := hw.2
            have hP : va_P (dC, dI) vwCl (wld_X10_want cI cJ cZ h_p0 ad_p0 p0_places p0_steps p0_pastFirst y18 p0_goings p0_rowSize p0_ways y16 y15 p0_faultNow y17 y21 y22 y19 y20 p0_colour p0_gifts (upd p0_wants (((16 : Int32) * a1) + a2).toNatClampNeg a3)) H := hP
            have hD : va_D A (wld_X10_want cI cJ cZ h_p0 ad_p0 p0_places p0_steps p0_pastFirst y18 p0_goings p0_rowSize p0_ways y16 y15 p0_faultNow y17 y21 y22 y19 y20 p0_colour p0_gifts (upd p0_wants (((16 : Int32) * a1) + a2).toNatClampNeg a3)) := hD
            refine lv_aload_n hx hb dX10_want_66 rfl (lv_at hl 0 rfl) ?_
            refine va_get (D := (dC, dI)) (ci := 10) (v := .ref (ad_p0 9)) (C := RX10) (T := TX10) (N := 50) hx hb hts iX10 hown hK hP 0 rfl rfl 9 (by decide) (hts (.fieldLink RX10 31 "NetHouseModel" "gifts" "[I") (by decide +kernel)) (fun _ h9 => h9) rfl dX10_want_67 ?_
            refine lv_bipush (v := 16) hx hb dX10_want_70 (by decide) ?_
            refine lv_iload_n hx hb dX10_want_72 rfl (lv_at hl 1 rfl) ?_
            refine lv_imul hx hb dX10_want_73 ?_
            refine lv_iload_n hx hb dX10_want_74 rfl (lv_at hl 2 rfl) ?_
            refine lv_iadd hx hb dX10_want_75 ?_
            refine lv_iload hx hb dX10_want_76 (lv_at hl 4 rfl) ?_
            refine va_iast hx hb hK hP hD hS 2 0 rfl rfl hw.1 dX10_want_78 (fun H locs hP hD hS => ?_)
            have hw := hw.2
            have hP : va_P (dC, dI) vwCl (wld_X10_want cI cJ cZ h_p0 ad_p0 p0_places p0_steps p0_pastFirst y18 p0_goings p0_rowSize p0_ways y16 y15 p0_faultNow y17 y21 y22 y19 y20 p0_colour (upd p0_gifts (((16 : Int32) * a1) + a2).toNatClampNeg a4) (upd p0_wants (((16 : Int32) * a1) + a2).toNatClampNeg a3)) H := hP
            have hD : va_D A (wld_X10_want cI cJ cZ h_p0 ad_p0 p0_places p0_steps p0_pastFirst y18 p0_goings p0_rowSize p0_ways y16 y15 p0_faultNow y17 y21 y22 y19 y20 p0_colour (upd p0_gifts (((16 : Int32) * a1) + a2).toNatClampNeg a4) (upd p0_wants (((16 : Int32) * a1) + a2).toNatClampNeg a3)) := hD
            refine lv_iconst (v := 0) hx hb dX10_want_79 (by decide) ?_
            exact x_iret (w1 := fun (u : (Int32) × (Int32) × (Int32) × (Int32) × (Int32) × (Int32) × (Int32) × (Int32) × (Nat → Int32) × (Nat → Int32)) => (wld_X10_want cI cJ cZ h_p0 ad_p0 p0_places p0_steps p0_pastFirst (u.2.2.2.1) p0_goings p0_rowSize p0_ways (u.2.1) (u.1) p0_faultNow (u.2.2.1) (u.2.2.2.2.2.2.1) (u.2.2.2.2.2.2.2.1) (u.2.2.2.2.1) (u.2.2.2.2.2.1) p0_colour (u.2.2.2.2.2.2.2.2.1) (u.2.2.2.2.2.2.2.2.2))) hx hb hr hlocks (y15, y16, y17, y18, y19, y20, y21, y22, (upd p0_gifts (((16 : Int32) * a1) + a2).toNatClampNeg a4), (upd p0_wants (((16 : Int32) * a1) + a2).toNatClampNeg a3)) hw hP hD hS dX10_want_80
          · have hw := hw.2 c14
            refine lv_ldc (v := -2000000002) hx hb hown (hts (.constant RX10 171 (-2000000002)) (by decide +kernel)) dX10_want_47 ?_
            exact x_iret (w1 := fun (u : (Int32) × (Int32) × (Int32) × (Int32) × (Int32) × (Int32) × (Int32) × (Int32) × (Nat → Int32) × (Nat → Int32)) => (wld_X10_want cI cJ cZ h_p0 ad_p0 p0_places p0_steps p0_pastFirst (u.2.2.2.1) p0_goings p0_rowSize p0_ways (u.2.1) (u.1) p0_faultNow (u.2.2.1) (u.2.2.2.2.2.2.1) (u.2.2.2.2.2.2.2.1) (u.2.2.2.2.1) (u.2.2.2.2.2.1) p0_colour (u.2.2.2.2.2.2.2.2.1) (u.2.2.2.2.2.2.2.2.2))) hx hb hr hlocks (p0_fieldSize, p0_hasField, p0_hasTree, p0_past, p0_roundCount, p0_setCount, p0_treeSize, p0_weightCount, p0_gifts, p0_wants) hw hP hD hS dX10_want_49
        · have hw := hw.2 c12
          refine lv_ldc (v := -2000000001) hx hb hown (hts (.constant RX10 159 (-2000000001)) (by decide +kernel)) dX10_want_35 ?_
          exact x_iret (w1 := fun (u : (Int32) × (Int32) × (Int32) × (Int32) × (Int32) × (Int32) × (Int32) × (Int32) × (Nat → Int32) × (Nat → Int32)) => (wld_X10_want cI cJ cZ h_p0 ad_p0 p0_places p0_steps p0_pastFirst (u.2.2.2.1) p0_goings p0_rowSize p0_ways (u.2.1) (u.1) p0_faultNow (u.2.2.1) (u.2.2.2.2.2.2.1) (u.2.2.2.2.2.2.2.1) (u.2.2.2.2.1) (u.2.2.2.2.2.1) p0_colour (u.2.2.2.2.2.2.2.2.1) (u.2.2.2.2.2.2.2.2.2))) hx hb hr hlocks (p0_fieldSize, p0_hasField, p0_hasTree, p0_past, p0_roundCount, p0_setCount, p0_treeSize, p0_weightCount, p0_gifts, p0_wants) hw hP hD hS dX10_want_37
abbrev wld_X10_asks (cI cJ cZ : ClassId) (h_p0 : Nat) (ad_p0 : Nat → Nat) (p0_places : Int32) (p0_steps : Int32) (p0_pastFirst : Int32) (p0_past : Int32) (p0_goings : Int32) (p0_rowSize : Int32) (p0_ways : Int32) (p0_hasField : Int32) (p0_fieldSize : Int32) (p0_faultNow : Int32) (p0_hasTree : Int32) (p0_treeSize : Int32) (p0_weightCount : Int32) (p0_roundCount : Int32) (p0_setCount : Int32) (p0_closes : Nat → Int32) (p0_gifts : Nat → Int32) (p0_needs : Nat → Int32) (p0_puts : Nat → Int32) (p0_takes : Nat → Int32) (p0_wants : Nat → Int32) : va_W := [(h_p0, .inr (10, [.int p0_places, .int p0_steps, .ref (ad_p0 2), .ref (ad_p0 3), .ref (ad_p0 4), .ref (ad_p0 5), .ref (ad_p0 6), .ref (ad_p0 7), .ref (ad_p0 8), .ref (ad_p0 9), .ref (ad_p0 10), .ref (ad_p0 11), .ref (ad_p0 12), .ref (ad_p0 13), .ref (ad_p0 14), .int p0_pastFirst, .int p0_past, .int p0_goings, .int p0_rowSize, .ref (ad_p0 19), .ref (ad_p0 20), .int p0_ways, .ref (ad_p0 22), .ref (ad_p0 23), .int p0_hasField, .int p0_fieldSize, .ref (ad_p0 26), .ref (ad_p0 27), .ref (ad_p0 28), .ref (ad_p0 29), .ref (ad_p0 30), .ref (ad_p0 31), .ref (ad_p0 32), .int p0_faultNow, .int p0_hasTree, .int p0_treeSize, .ref (ad_p0 36), .ref (ad_p0 37), .ref (ad_p0 38), .ref (ad_p0 39), .ref (ad_p0 40), .ref (ad_p0 41), .ref (ad_p0 42), .int p0_weightCount, .ref (ad_p0 44), .int p0_roundCount, .ref (ad_p0 46), .int p0_setCount, .ref (ad_p0 48), .ref (ad_p0 49)])), ((ad_p0 7), .inl (cI, 256, .inl p0_closes)), ((ad_p0 9), .inl (cI, 256, .inl p0_gifts)), ((ad_p0 6), .inl (cI, 256, .inl p0_needs)), ((ad_p0 5), .inl (cI, 256, .inl p0_puts)), ((ad_p0 4), .inl (cI, 256, .inl p0_takes)), ((ad_p0 8), .inl (cI, 256, .inl p0_wants))]
abbrev q_X10_asks (dC : Nat → ClassId) (dI : Nat → Nat → Nat) (cI cJ cZ : ClassId) (h_p0 : Nat) (ad_p0 : Nat → Nat) (p0_places : Int32) (p0_steps : Int32) (p0_pastFirst : Int32) (p0_past : Int32) (p0_goings : Int32) (p0_rowSize : Int32) (p0_ways : Int32) (p0_hasField : Int32) (p0_fieldSize : Int32) (p0_faultNow : Int32) (p0_hasTree : Int32) (p0_treeSize : Int32) (p0_weightCount : Int32) (p0_roundCount : Int32) (p0_setCount : Int32) (p0_closes : Nat → Int32) (p0_gifts : Nat → Int32) (p0_needs : Nat → Int32) (p0_puts : Nat → Int32) (p0_takes : Nat → Int32) (p0_wants : Nat → Int32) (post : Int32 → Prop) (A : Nat → Prop) : Array Value → State → Outcome → State → Prop := va_Qi (fun r (u : Unit) => post r ) (fun (u : Unit) t => xPost (dC, dI) A (wld_X10_asks cI cJ cZ h_p0 ad_p0 p0_places p0_steps p0_pastFirst p0_past p0_goings p0_rowSize p0_ways p0_hasField p0_fieldSize p0_faultNow p0_hasTree p0_treeSize p0_weightCount p0_roundCount p0_setCount p0_closes p0_gifts p0_needs p0_puts p0_takes p0_wants) t) A
def w_X10_asks (p0_places : Int32) (p0_steps : Int32) (p0_closes : Nat → Int32) (p0_gifts : Nat → Int32) (p0_needs : Nat → Int32) (p0_puts : Nat → Int32) (p0_takes : Nat → Int32) (p0_wants : Nat → Int32) (a1 : Int32) (a2 : Int32) (a3 : Int32) (post : Int32 → Prop) : Prop :=
  w_X10_isStep p0_steps a1 (fun r1 =>
  (r1 = 0 →
    (post (-2000000001 : Int32))) ∧
  (¬ r1 = 0 →
    w_X10_isPlace p0_places a2 (fun r4 =>
    (r4 = 0 →
      (post (-2000000001 : Int32))) ∧
    (¬ r4 = 0 →
      w_X10_isIn a3 (0 : Int32) (5 : Int32) (fun r7 =>
      (¬ r7 = 0 →
        ∀ x10 : Int32, x10 = (((16 : Int32) * a1) + a2) →
        (¬ a3 = 0 →
          (¬ a3 = (1 : Int32) →
            (¬ a3 = (2 : Int32) →
              (¬ a3 = (3 : Int32) →
                (¬ a3 = (4 : Int32) →
                  vp_in x10 256 ∧
                  (post (p0_gifts x10.toNatClampNeg))) ∧
                (a3 = (4 : Int32) →
                  vp_in x10 256 ∧
                  (post (p0_wants x10.toNatClampNeg)))) ∧
              (a3 = (3 : Int32) →
                vp_in x10 256 ∧
                (post (p0_closes x10.toNatClampNeg)))) ∧
            (a3 = (2 : Int32) →
              vp_in x10 256 ∧
              (post (p0_needs x10.toNatClampNeg)))) ∧
          (a3 = (1 : Int32) →
            vp_in x10 256 ∧
            (post (p0_puts x10.toNatClampNeg)))) ∧
        (a3 = 0 →
          vp_in x10 256 ∧
          (post (p0_takes x10.toNatClampNeg)))) ∧
      (r7 = 0 →
        (post (-2000000001 : Int32))))))))
set_option maxHeartbeats 4000000 in
set_option maxRecDepth 100000 in
theorem c_X10_asks {l : Launch} {dC : Nat → ClassId} {dI : Nat → Nat → Nat} {sz : Nat} {cI cJ cZ : ClassId} {h_p0 : Nat} {ad_p0 : Nat → Nat} {p0_places : Int32} {p0_steps : Int32} {p0_pastFirst : Int32} {p0_past : Int32} {p0_goings : Int32} {p0_rowSize : Int32} {p0_ways : Int32} {p0_hasField : Int32} {p0_fieldSize : Int32} {p0_faultNow : Int32} {p0_hasTree : Int32} {p0_treeSize : Int32} {p0_weightCount : Int32} {p0_roundCount : Int32} {p0_setCount : Int32} {p0_closes : Nat → Int32} {p0_gifts : Nat → Int32} {p0_needs : Nat → Int32} {p0_puts : Nat → Int32} {p0_takes : Nat → Int32} {p0_wants : Nat → Int32} {a1 : Int32} {a2 : Int32} {a3 : Int32} {post : Int32 → Prop} (hw : w_X10_asks p0_places p0_steps p0_closes p0_gifts p0_needs p0_puts p0_takes p0_wants a1 a2 a3 post) : Met l yX10_asks wsX10_asks ({ frames := 1, cells := 0, slots := 0, locals := 22 }) (va_Pc [.ref h_p0, .int a1, .int a2, .int a3] (xPre (dC, dI) cI cJ cZ (wld_X10_asks cI cJ cZ h_p0 ad_p0 p0_places p0_steps p0_pastFirst p0_past p0_goings p0_rowSize p0_ways p0_hasField p0_fieldSize p0_faultNow p0_hasTree p0_treeSize p0_weightCount p0_roundCount p0_setCount p0_closes p0_gifts p0_needs p0_puts p0_takes p0_wants) sz)) (q_X10_asks dC dI cI cJ cZ h_p0 ad_p0 p0_places p0_steps p0_pastFirst p0_past p0_goings p0_rowSize p0_ways p0_hasField p0_fieldSize p0_faultNow p0_hasTree p0_treeSize p0_weightCount p0_roundCount p0_setCount p0_closes p0_gifts p0_needs p0_puts p0_takes p0_wants post (va_A (wld_X10_asks cI cJ cZ h_p0 ad_p0 p0_places p0_steps p0_pastFirst p0_past p0_goings p0_rowSize p0_ways p0_hasField p0_fieldSize p0_faultNow p0_hasTree p0_treeSize p0_weightCount p0_roundCount p0_setCount p0_closes p0_gifts p0_needs p0_puts p0_takes p0_wants) sz)) 0 0 (va_A (wld_X10_asks cI cJ cZ h_p0 ad_p0 p0_places p0_steps p0_pastFirst p0_past p0_goings p0_rowSize p0_ways p0_hasField p0_fieldSize p0_faultNow p0_hasTree p0_treeSize p0_weightCount p0_roundCount p0_setCount p0_closes p0_gifts p0_needs p0_puts p0_takes p0_wants) sz) := by
  refine x_met (cc := cX10_asks) (maxL := 5) (ret := (some .int)) (own := RX10) (Qc := fun A => (q_X10_asks dC dI cI cJ cZ h_p0 ad_p0 p0_places p0_steps p0_pastFirst p0_past p0_goings p0_rowSize p0_ways p0_hasField p0_fieldSize p0_faultNow p0_hasTree p0_treeSize p0_weightCount p0_roundCount p0_setCount p0_closes p0_gifts p0_needs p0_puts p0_takes p0_wants post A)) (by decide) rfl rfl (Nat.le_of_ble_eq_true rfl) ?_
  intro p e s m args below meth c A ls E0 hP hD hS hl
  obtain ⟨hx, hb, hr, hml, hown, hts, hlocks, hK, hA, n1, n2⟩ := id E0
  have iX10 : ∀ w ∈ u_ws RX10 TX10 50, w ∈ wsX10_asks := fun w h => List.mem_cons_of_mem _ (List.mem_append_right _ h)
  have hS0 := hS
  have hl : lv_has ls 5 [(0, .ref h_p0), (1, .int a1), (2, .int a2), (3, .int a3)] := hl
  unfold w_X10_asks at hw
  obtain ⟨H, hH⟩ : ∃ H, H = s.heap := ⟨_, rfl⟩
  have hS : va_S A s.heap H [] := by rw [hH]; exact hS
  have hP : va_P (dC, dI) vwCl (wld_X10_asks cI cJ cZ h_p0 ad_p0 p0_places p0_steps p0_pastFirst p0_past p0_goings p0_rowSize p0_ways p0_hasField p0_fieldSize p0_faultNow p0_hasTree p0_treeSize p0_weightCount p0_roundCount p0_setCount p0_closes p0_gifts p0_needs p0_puts p0_takes p0_wants) H := by rw [hH]; exact hP
  suffices hG : W p l e ({ frames := 1, cells := 0, slots := 0, locals := 22 }) s m args below meth c H [] 0 0 (MQ below (q_X10_asks dC dI cI cJ cZ h_p0 ad_p0 p0_places p0_steps p0_pastFirst p0_past p0_goings p0_rowSize p0_ways p0_hasField p0_fieldSize p0_faultNow p0_hasTree p0_treeSize p0_weightCount p0_roundCount p0_setCount p0_closes p0_gifts p0_needs p0_puts p0_takes p0_wants post A) args s 0 0 A) (F0 m 0 ls []) by rw [hH] at hG; exact hG
  clear hH
  refine lv_aload_n hx hb dX10_asks_0 rfl (lv_at hl 0 rfl) ?_
  refine lv_iload_n hx hb dX10_asks_1 rfl (lv_at hl 1 rfl) ?_
  obtain ⟨hPc, hDc⟩ := x_sub (wc := (wld_X10_isStep cI cJ cZ h_p0 ad_p0 p0_places p0_steps p0_pastFirst p0_past p0_goings p0_rowSize p0_ways p0_hasField p0_fieldSize p0_faultNow p0_hasTree p0_treeSize p0_weightCount p0_roundCount p0_setCount)) hP hD [0] (n := 7) rfl rfl (by decide +kernel)
  refine x_calli (ws' := fun (u : Unit) => (wld_X10_asks cI cJ cZ h_p0 ad_p0 p0_places p0_steps p0_pastFirst p0_past p0_goings p0_rowSize p0_ways p0_hasField p0_fieldSize p0_faultNow p0_hasTree p0_treeSize p0_weightCount p0_roundCount p0_setCount p0_closes p0_gifts p0_needs p0_puts p0_takes p0_wants)) hP hD hS hA [0] [1, 2, 3, 4, 5, 6] [6, 0, 1, 2, 3, 4, 5] (n := 7) (k := 1) rfl (fun _ => rfl) rfl (by decide +kernel) (fun _ => rfl) (va_runV (As := [.int a1]) (rest := []) ⟨hx, hb, hml, hown, hts⟩ (c_X10_isStep (l := l) (dC := dC) (dI := dI) (cI := cI) (cJ := cJ) (cZ := cZ) (sz := H.size) (h_p0 := h_p0) (ad_p0 := ad_p0) (p0_places := p0_places) (p0_steps := p0_steps) (p0_pastFirst := p0_pastFirst) (p0_past := p0_past) (p0_goings := p0_goings) (p0_rowSize := p0_rowSize) (p0_ways := p0_ways) (p0_hasField := p0_hasField) (p0_fieldSize := p0_fieldSize) (p0_faultNow := p0_faultNow) (p0_hasTree := p0_hasTree) (p0_treeSize := p0_treeSize) (p0_weightCount := p0_weightCount) (p0_roundCount := p0_roundCount) (p0_setCount := p0_setCount) hw) (cwV 1 hts gX10_asks_X10_isStep rfl rfl rfl (by decide +kernel) ⟨Nat.le_of_ble_eq_true rfl, Nat.le_of_ble_eq_true rfl⟩) ⟨xPre_blind, va_recv hK hP (ci := 10) (q0 := 0) rfl rfl, xPre_at hK hPc hDc n1 n2⟩ rfl rfl hl.1 rfl (lv_room (Nat.le_of_ble_eq_true rfl)) dX10_asks_2 ⟨Nat.zero_le _, Nat.zero_le _⟩) (fun r1 u H locs hw hP hD hS => ?_)
  try dsimp only at hw
  have hP : va_P (dC, dI) vwCl (wld_X10_asks cI cJ cZ h_p0 ad_p0 p0_places p0_steps p0_pastFirst p0_past p0_goings p0_rowSize p0_ways p0_hasField p0_fieldSize p0_faultNow p0_hasTree p0_treeSize p0_weightCount p0_roundCount p0_setCount p0_closes p0_gifts p0_needs p0_puts p0_takes p0_wants) H := hP
  have hD : va_D A (wld_X10_asks cI cJ cZ h_p0 ad_p0 p0_places p0_steps p0_pastFirst p0_past p0_goings p0_rowSize p0_ways p0_hasField p0_fieldSize p0_faultNow p0_hasTree p0_treeSize p0_weightCount p0_roundCount p0_setCount p0_closes p0_gifts p0_needs p0_puts p0_takes p0_wants) := hD
  refine lv_if_eq (tgt := 25) hx hb dX10_asks_5 (by decide) (fun c2 => ?_) (fun c3 => ?_)
  · have hw := hw.1 c2
    refine lv_ldc (v := -2000000001) hx hb hown (hts (.constant RX10 159 (-2000000001)) (by decide +kernel)) dX10_asks_25 ?_
    exact x_iret (w1 := fun (u : Unit) => (wld_X10_asks cI cJ cZ h_p0 ad_p0 p0_places p0_steps p0_pastFirst p0_past p0_goings p0_rowSize p0_ways p0_hasField p0_fieldSize p0_faultNow p0_hasTree p0_treeSize p0_weightCount p0_roundCount p0_setCount p0_closes p0_gifts p0_needs p0_puts p0_takes p0_wants)) hx hb hr hlocks () hw hP hD hS dX10_asks_27
  · have hw := hw.2 c3
    refine lv_aload_n hx hb dX10_asks_8 rfl (lv_at hl 0 rfl) ?_
    refine lv_iload_n hx hb dX10_asks_9 rfl (lv_at hl 2 rfl) ?_
    obtain ⟨hPc, hDc⟩ := x_sub (wc := (wld_X10_isPlace cI cJ cZ h_p0 ad_p0 p0_places p0_steps p0_pastFirst p0_past p0_goings p0_rowSize p0_ways p0_hasField p0_fieldSize p0_faultNow p0_hasTree p0_treeSize p0_weightCount p0_roundCount p0_setCount)) hP hD [0] (n := 7) rfl rfl (by decide +kernel)
    refine x_calli (ws' := fun (u : Unit) => (wld_X10_asks cI cJ cZ h_p0 ad_p0 p0_places p0_steps p0_pastFirst p0_past p0_goings p0_rowSize p0_ways p0_hasField p0_fieldSize p0_faultNow p0_hasTree p0_treeSize p0_weightCount p0_roundCount p0_setCount p0_closes p0_gifts p0_needs p0_puts p0_takes p0_wants)) hP hD hS hA [0] [1, 2, 3, 4, 5, 6] [6, 0, 1, 2, 3, 4, 5] (n := 7) (k := 1) rfl (fun _ => rfl) rfl (by decide +kernel) (fun _ => rfl) (va_runV (As := [.int a2]) (rest := []) ⟨hx, hb, hml, hown, hts⟩ (c_X10_isPlace (l := l) (dC := dC) (dI := dI) (cI := cI) (cJ := cJ) (cZ := cZ) (sz := H.size) (h_p0 := h_p0) (ad_p0 := ad_p0) (p0_places := p0_places) (p0_steps := p0_steps) (p0_pastFirst := p0_pastFirst) (p0_past := p0_past) (p0_goings := p0_goings) (p0_rowSize := p0_rowSize) (p0_ways := p0_ways) (p0_hasField := p0_hasField) (p0_fieldSize := p0_fieldSize) (p0_faultNow := p0_faultNow) (p0_hasTree := p0_hasTree) (p0_treeSize := p0_treeSize) (p0_weightCount := p0_weightCount) (p0_roundCount := p0_roundCount) (p0_setCount := p0_setCount) hw) (cwV 1 hts gX10_asks_X10_isPlace rfl rfl rfl (by decide +kernel) ⟨Nat.le_of_ble_eq_true rfl, Nat.le_of_ble_eq_true rfl⟩) ⟨xPre_blind, va_recv hK hP (ci := 10) (q0 := 0) rfl rfl, xPre_at hK hPc hDc n1 n2⟩ rfl rfl hl.1 rfl (lv_room (Nat.le_of_ble_eq_true rfl)) dX10_asks_10 ⟨Nat.zero_le _, Nat.zero_le _⟩) (fun r4 u H locs hw hP hD hS => ?_)
    try dsimp only at hw
    have hP : va_P (dC, dI) vwCl (wld_X10_asks cI cJ cZ h_p0 ad_p0 p0_places p0_steps p0_pastFirst p0_past p0_goings p0_rowSize p0_ways p0_hasField p0_fieldSize p0_faultNow p0_hasTree p0_treeSize p0_weightCount p0_roundCount p0_setCount p0_closes p0_gifts p0_needs p0_puts p0_takes p0_wants) H := hP
    have hD : va_D A (wld_X10_asks cI cJ cZ h_p0 ad_p0 p0_places p0_steps p0_pastFirst p0_past p0_goings p0_rowSize p0_ways p0_hasField p0_fieldSize p0_faultNow p0_hasTree p0_treeSize p0_weightCount p0_roundCount p0_setCount p0_closes p0_gifts p0_needs p0_puts p0_takes p0_wants) := hD
    refine lv_if_eq (tgt := 25) hx hb dX10_asks_13 (by decide) (fun c5 => ?_) (fun c6 => ?_)
    · have hw := hw.1 c5
      refine lv_ldc (v := -2000000001) hx hb hown (hts (.constant RX10 159 (-2000000001)) (by decide +kernel)) dX10_asks_25 ?_
      exact x_iret (w1 := fun (u : Unit) => (wld_X10_asks cI cJ cZ h_p0 ad_p0 p0_places p0_steps p0_pastFirst p0_past p0_goings p0_rowSize p0_ways p0_hasField p0_fieldSize p0_faultNow p0_hasTree p0_treeSize p0_weightCount p0_roundCount p0_setCount p0_closes p0_gifts p0_needs p0_puts p0_takes p0_wants)) hx hb hr hlocks () hw hP hD hS dX10_asks_27
    · have hw := hw.2 c6
      refine lv_iload_n hx hb dX10_asks_16 rfl (lv_at hl 3 rfl) ?_
      refine lv_iconst (v := 0) hx hb dX10_asks_17 (by decide) ?_
      refine lv_iconst (v := 5) hx hb dX10_asks_18 (by decide) ?_
      obtain ⟨hPc, hDc⟩ := x_sub (wc := (wld_X10_isIn cI cJ cZ )) hP hD [] (n := 7) rfl rfl (by decide +kernel)
      refine x_calli (ws' := fun (u : Unit) => (wld_X10_asks cI cJ cZ h_p0 ad_p0 p0_places p0_steps p0_pastFirst p0_past p0_goings p0_rowSize p0_ways p0_hasField p0_fieldSize p0_faultNow p0_hasTree p0_treeSize p0_weightCount p0_roundCount p0_setCount p0_closes p0_gifts p0_needs p0_puts p0_takes p0_wants)) hP hD hS hA [] [0, 1, 2, 3, 4, 5, 6] [0, 1, 2, 3, 4, 5, 6] (n := 7) (k := 0) rfl (fun _ => rfl) rfl (by decide +kernel) (fun _ => rfl) (va_runS (As := [.int a3, .int (0 : Int32), .int (5 : Int32)]) (rest := []) ⟨hx, hb, hml, hown, hts⟩ (c_X10_isIn (l := l) (dC := dC) (dI := dI) (cI := cI) (cJ := cJ) (cZ := cZ) (sz := H.size) hw) (va_cwS 3 hts gX10_asks_X10_isIn rfl rfl rfl (by decide +kernel) ⟨Nat.le_of_ble_eq_true rfl, Nat.le_of_ble_eq_true rfl⟩) ⟨xPre_blind, xPre_at hK hPc hDc n1 n2⟩ rfl rfl hl.1 rfl (lv_room (Nat.le_of_ble_eq_true rfl)) dX10_asks_19 ⟨Nat.zero_le _, Nat.zero_le _⟩) (fun r7 u H locs hw hP hD hS => ?_)
      try dsimp only at hw
      have hP : va_P (dC, dI) vwCl (wld_X10_asks cI cJ cZ h_p0 ad_p0 p0_places p0_steps p0_pastFirst p0_past p0_goings p0_rowSize p0_ways p0_hasField p0_fieldSize p0_faultNow p0_hasTree p0_treeSize p0_weightCount p0_roundCount p0_setCount p0_closes p0_gifts p0_needs p0_puts p0_takes p0_wants) H := hP
      have hD : va_D A (wld_X10_asks cI cJ cZ h_p0 ad_p0 p0_places p0_steps p0_pastFirst p0_past p0_goings p0_rowSize p0_ways p0_hasField p0_fieldSize p0_faultNow p0_hasTree p0_treeSize p0_weightCount p0_roundCount p0_setCount p0_closes p0_gifts p0_needs p0_puts p0_takes p0_wants) := hD
      refine lv_if_ne (tgt := 28) hx hb dX10_asks_22 (by decide) (fun c8 => ?_) (fun c9 => ?_)
      · have hw := hw.1 c8
        refine lv_bipush (v := 16) hx hb dX10_asks_28 (by decide) ?_
        refine lv_iload_n hx hb dX10_asks_30 rfl (lv_at hl 1 rfl) ?_
        refine lv_imul hx hb dX10_asks_31 ?_
        refine lv_iload_n hx hb dX10_asks_32 rfl (lv_at hl 2 rfl) ?_
        refine lv_iadd hx hb dX10_asks_33 ?_
        refine lv_topi (fun x10 ex10 => ?_)
        have hw := hw x10 ex10
        refine lv_istore (lv' := [(4, .int x10), (0, .ref h_p0), (1, .int a1), (2, .int a2), (3, .int a3)]) hx hb dX10_asks_34 hl (by decide) rfl (fun ls hl => ?_)
        refine lv_iload_n hx hb dX10_asks_36 rfl (lv_at hl 4 rfl) ?_
        refine lv_if_ne (tgt := 50) hx hb dX10_asks_37 (by decide) (fun c11 => ?_) (fun c12 => ?_)
        · have hw := hw.1 c11
          refine lv_iload_n hx hb dX10_asks_50 rfl (lv_at hl 4 rfl) ?_
          refine lv_iconst (v := 1) hx hb dX10_asks_51 (by decide) ?_
          refine lv_icmp_ne (tgt := 65) hx hb dX10_asks_52 (by decide) (fun c13 => ?_) (fun c14 => ?_)
          · have hw := hw.1 c13
            refine lv_iload_n hx hb dX10_asks_65 rfl (lv_at hl 4 rfl) ?_
            refine lv_iconst (v := 2) hx hb dX10_asks_66 (by decide) ?_
            refine lv_icmp_ne (tgt := 80) hx hb dX10_asks_67 (by decide) (fun c15 => ?_) (fun c16 => ?_)
            · have hw := hw.1 c15
              refine lv_iload_n hx hb dX10_asks_80 rfl (lv_at hl 4 rfl) ?_
              refine lv_iconst (v := 3) hx hb dX10_asks_81 (by decide) ?_
              refine lv_icmp_ne (tgt := 95) hx hb dX10_asks_82 (by decide) (fun c17 => ?_) (fun c18 => ?_)
              · have hw := hw.1 c17
                refine lv_iload_n hx hb dX10_asks_95 rfl (lv_at hl 4 rfl) ?_
                refine lv_iconst (v := 4) hx hb dX10_asks_96 (by decide) ?_
                refine lv_icmp_ne (tgt := 110) hx hb dX10_asks_97 (by decide) (fun c19 => ?_) (fun c20 => ?_)
                · have hw := hw.1 c19
                  refine lv_aload_n hx hb dX10_asks_110 rfl (lv_at hl 1 rfl) ?_
                  refine va_get (D := (dC, dI)) (ci := 10) (v := .ref (ad_p0 9)) (C := RX10) (T := TX10) (N := 50) hx hb hts iX10 hown hK hP 0 rfl rfl 9 (by decide) (hts (.fieldLink RX10 31 "NetHouseModel" "gifts" "[I") (by decide +kernel)) (fun _ h9 => h9) rfl dX10_asks_111 ?_
                  refine lv_iload hx hb dX10_asks_114 (lv_at hl 0 rfl) ?_
                  refine va_iald hx hb hK hP 2 0 rfl rfl hw.1 dX10_asks_116 ?_
                  have hw := hw.2
                  exact x_iret (w1 := fun (u : Unit) => (wld_X10_asks cI cJ cZ h_p0 ad_p0 p0_places p0_steps p0_pastFirst p0_past p0_goings p0_rowSize p0_ways p0_hasField p0_fieldSize p0_faultNow p0_hasTree p0_treeSize p0_weightCount p0_roundCount p0_setCount p0_closes p0_gifts p0_needs p0_puts p0_takes p0_wants)) hx hb hr hlocks () hw hP hD hS dX10_asks_117
                · have hw := hw.2 c20
                  refine lv_aload_n hx hb dX10_asks_100 rfl (lv_at hl 1 rfl) ?_
                  refine va_get (D := (dC, dI)) (ci := 10) (v := .ref (ad_p0 8)) (C := RX10) (T := TX10) (N := 50) hx hb hts iX10 hown hK hP 0 rfl rfl 8 (by decide) (hts (.fieldLink RX10 28 "NetHouseModel" "wants" "[I") (by decide +kernel)) (fun _ h9 => h9) rfl dX10_asks_101 ?_
                  refine lv_iload hx hb dX10_asks_104 (lv_at hl 0 rfl) ?_
                  refine va_iald hx hb hK hP 6 0 rfl rfl hw.1 dX10_asks_106 ?_
                  have hw := hw.2
                  refine lv_goto (tgt := 117) hx hb dX10_asks_107 (by decide) ?_
                  exact x_iret (w1 := fun (u : Unit) => (wld_X10_asks cI cJ cZ h_p0 ad_p0 p0_places p0_steps p0_pastFirst p0_past p0_goings p0_rowSize p0_ways p0_hasField p0_fieldSize p0_faultNow p0_hasTree p0_treeSize p0_weightCount p0_roundCount p0_setCount p0_closes p0_gifts p0_needs p0_puts p0_takes p0_wants)) hx hb hr hlocks () hw hP hD hS dX10_asks_117
              · have hw := hw.2 c18
                refine lv_aload_n hx hb dX10_asks_85 rfl (lv_at hl 1 rfl) ?_
                refine va_get (D := (dC, dI)) (ci := 10) (v := .ref (ad_p0 7)) (C := RX10) (T := TX10) (N := 50) hx hb hts iX10 hown hK hP 0 rfl rfl 7 (by decide) (hts (.fieldLink RX10 25 "NetHouseModel" "closes" "[I") (by decide +kernel)) (fun _ h9 => h9) rfl dX10_asks_86 ?_
                refine lv_iload hx hb dX10_asks_89 (lv_at hl 0 rfl) ?_
                refine va_iald hx hb hK hP 1 0 rfl rfl hw.1 dX10_asks_91 ?_
                have hw := hw.2
                refine lv_goto (tgt := 117) hx hb dX10_asks_92 (by decide) ?_
                exact x_iret (w1 := fun (u : Unit) => (wld_X10_asks cI cJ cZ h_p0 ad_p0 p0_places p0_steps p0_pastFirst p0_past p0_goings p0_rowSize p0_ways p0_hasField p0_fieldSize p0_faultNow p0_hasTree p0_treeSize p0_weightCount p0_roundCount p0_setCount p0_closes p0_gifts p0_needs p0_puts p0_takes p0_wants)) hx hb hr hlocks () hw hP hD hS dX10_asks_117
            · have hw := hw.2 c16
              refine lv_aload_n hx hb dX10_asks_70 rfl (lv_at hl 1 rfl) ?_
              refine va_get (D := (dC, dI)) (ci := 10) (v := .ref (ad_p0 6)) (C := RX10) (T := TX10) (N := 50) hx hb hts iX10 hown hK hP 0 rfl rfl 6 (by decide) (hts (.fieldLink RX10 22 "NetHouseModel" "needs" "[I") (by decide +kernel)) (fun _ h9 => h9) rfl dX10_asks_71 ?_
              refine lv_iload hx hb dX10_asks_74 (lv_at hl 0 rfl) ?_
              refine va_iald hx hb hK hP 3 0 rfl rfl hw.1 dX10_asks_76 ?_
              have hw := hw.2
              refine lv_goto (tgt := 117) hx hb dX10_asks_77 (by decide) ?_
              exact x_iret (w1 := fun (u : Unit) => (wld_X10_asks cI cJ cZ h_p0 ad_p0 p0_places p0_steps p0_pastFirst p0_past p0_goings p0_rowSize p0_ways p0_hasField p0_fieldSize p0_faultNow p0_hasTree p0_treeSize p0_weightCount p0_roundCount p0_setCount p0_closes p0_gifts p0_needs p0_puts p0_takes p0_wants)) hx hb hr hlocks () hw hP hD hS dX10_asks_117
          · have hw := hw.2 c14
            refine lv_aload_n hx hb dX10_asks_55 rfl (lv_at hl 1 rfl) ?_
            refine va_get (D := (dC, dI)) (ci := 10) (v := .ref (ad_p0 5)) (C := RX10) (T := TX10) (N := 50) hx hb hts iX10 hown hK hP 0 rfl rfl 5 (by decide) (hts (.fieldLink RX10 19 "NetHouseModel" "puts" "[I") (by decide +kernel)) (fun _ h9 => h9) rfl dX10_asks_56 ?_
            refine lv_iload hx hb dX10_asks_59 (lv_at hl 0 rfl) ?_
            refine va_iald hx hb hK hP 4 0 rfl rfl hw.1 dX10_asks_61 ?_
            have hw := hw.2
            refine lv_goto (tgt := 117) hx hb dX10_asks_62 (by decide) ?_
            exact x_iret (w1 := fun (u : Unit) => (wld_X10_asks cI cJ cZ h_p0 ad_p0 p0_places p0_steps p0_pastFirst p0_past p0_goings p0_rowSize p0_ways p0_hasField p0_fieldSize p0_faultNow p0_hasTree p0_treeSize p0_weightCount p0_roundCount p0_setCount p0_closes p0_gifts p0_needs p0_puts p0_takes p0_wants)) hx hb hr hlocks () hw hP hD hS dX10_asks_117
        · have hw := hw.2 c12
          refine lv_aload_n hx hb dX10_asks_40 rfl (lv_at hl 1 rfl) ?_
          refine va_get (D := (dC, dI)) (ci := 10) (v := .ref (ad_p0 4)) (C := RX10) (T := TX10) (N := 50) hx hb hts iX10 hown hK hP 0 rfl rfl 4 (by decide) (hts (.fieldLink RX10 16 "NetHouseModel" "takes" "[I") (by decide +kernel)) (fun _ h9 => h9) rfl dX10_asks_41 ?_
          refine lv_iload hx hb dX10_asks_44 (lv_at hl 0 rfl) ?_
          refine va_iald hx hb hK hP 5 0 rfl rfl hw.1 dX10_asks_46 ?_
          have hw := hw.2
          refine lv_goto (tgt := 117) hx hb dX10_asks_47 (by decide) ?_
          exact x_iret (w1 := fun (u : Unit) => (wld_X10_asks cI cJ cZ h_p0 ad_p0 p0_places p0_steps p0_pastFirst p0_past p0_goings p0_rowSize p0_ways p0_hasField p0_fieldSize p0_faultNow p0_hasTree p0_treeSize p0_weightCount p0_roundCount p0_setCount p0_closes p0_gifts p0_needs p0_puts p0_takes p0_wants)) hx hb hr hlocks () hw hP hD hS dX10_asks_117
      · have hw := hw.2 c9
        refine lv_ldc (v := -2000000001) hx hb hown (hts (.constant RX10 159 (-2000000001)) (by decide +kernel)) dX10_asks_25 ?_
        exact x_iret (w1 := fun (u : Unit) => (wld_X10_asks cI cJ cZ h_p0 ad_p0 p0_places p0_steps p0_pastFirst p0_past p0_goings p0_rowSize p0_ways p0_hasField p0_fieldSize p0_faultNow p0_hasTree p0_treeSize p0_weightCount p0_roundCount p0_setCount p0_closes p0_gifts p0_needs p0_puts p0_takes p0_wants)) hx hb hr hlocks () hw hP hD hS dX10_asks_27
abbrev wld_X10_isOf (cI cJ cZ : ClassId) (h_p0 : Nat) (ad_p0 : Nat → Nat) (p0_places : Int32) (p0_steps : Int32) (p0_pastFirst : Int32) (p0_past : Int32) (p0_goings : Int32) (p0_rowSize : Int32) (p0_ways : Int32) (p0_hasField : Int32) (p0_fieldSize : Int32) (p0_faultNow : Int32) (p0_hasTree : Int32) (p0_treeSize : Int32) (p0_weightCount : Int32) (p0_roundCount : Int32) (p0_setCount : Int32) (p0_sort : Nat → Int32) : va_W := [(h_p0, .inr (10, [.int p0_places, .int p0_steps, .ref (ad_p0 2), .ref (ad_p0 3), .ref (ad_p0 4), .ref (ad_p0 5), .ref (ad_p0 6), .ref (ad_p0 7), .ref (ad_p0 8), .ref (ad_p0 9), .ref (ad_p0 10), .ref (ad_p0 11), .ref (ad_p0 12), .ref (ad_p0 13), .ref (ad_p0 14), .int p0_pastFirst, .int p0_past, .int p0_goings, .int p0_rowSize, .ref (ad_p0 19), .ref (ad_p0 20), .int p0_ways, .ref (ad_p0 22), .ref (ad_p0 23), .int p0_hasField, .int p0_fieldSize, .ref (ad_p0 26), .ref (ad_p0 27), .ref (ad_p0 28), .ref (ad_p0 29), .ref (ad_p0 30), .ref (ad_p0 31), .ref (ad_p0 32), .int p0_faultNow, .int p0_hasTree, .int p0_treeSize, .ref (ad_p0 36), .ref (ad_p0 37), .ref (ad_p0 38), .ref (ad_p0 39), .ref (ad_p0 40), .ref (ad_p0 41), .ref (ad_p0 42), .int p0_weightCount, .ref (ad_p0 44), .int p0_roundCount, .ref (ad_p0 46), .int p0_setCount, .ref (ad_p0 48), .ref (ad_p0 49)])), ((ad_p0 3), .inl (cI, 16, .inl p0_sort))]
abbrev q_X10_isOf (dC : Nat → ClassId) (dI : Nat → Nat → Nat) (cI cJ cZ : ClassId) (h_p0 : Nat) (ad_p0 : Nat → Nat) (p0_places : Int32) (p0_steps : Int32) (p0_pastFirst : Int32) (p0_past : Int32) (p0_goings : Int32) (p0_rowSize : Int32) (p0_ways : Int32) (p0_hasField : Int32) (p0_fieldSize : Int32) (p0_faultNow : Int32) (p0_hasTree : Int32) (p0_treeSize : Int32) (p0_weightCount : Int32) (p0_roundCount : Int32) (p0_setCount : Int32) (p0_sort : Nat → Int32) (post : Int32 → Prop) (A : Nat → Prop) : Array Value → State → Outcome → State → Prop := va_Qi (fun r (u : Unit) => post r ) (fun (u : Unit) t => xPost (dC, dI) A (wld_X10_isOf cI cJ cZ h_p0 ad_p0 p0_places p0_steps p0_pastFirst p0_past p0_goings p0_rowSize p0_ways p0_hasField p0_fieldSize p0_faultNow p0_hasTree p0_treeSize p0_weightCount p0_roundCount p0_setCount p0_sort) t) A
def w_X10_isOf (p0_steps : Int32) (p0_sort : Nat → Int32) (a1 : Int32) (a2 : Int32) (post : Int32 → Prop) : Prop :=
  w_X10_isStep p0_steps a1 (fun r1 =>
  (r1 = 0 →
    (post (-2000000001 : Int32))) ∧
  (¬ r1 = 0 →
    w_X10_isIn a2 (0 : Int32) (3 : Int32) (fun r4 =>
    (¬ r4 = 0 →
      vp_in a1 16 ∧
      ((p0_sort a1.toNatClampNeg) < a2 →
        (post (0 : Int32))) ∧
      (¬ (p0_sort a1.toNatClampNeg) < a2 →
        (post (1 : Int32)))) ∧
    (r4 = 0 →
      (post (-2000000001 : Int32))))))
set_option maxHeartbeats 4000000 in
set_option maxRecDepth 100000 in
theorem c_X10_isOf {l : Launch} {dC : Nat → ClassId} {dI : Nat → Nat → Nat} {sz : Nat} {cI cJ cZ : ClassId} {h_p0 : Nat} {ad_p0 : Nat → Nat} {p0_places : Int32} {p0_steps : Int32} {p0_pastFirst : Int32} {p0_past : Int32} {p0_goings : Int32} {p0_rowSize : Int32} {p0_ways : Int32} {p0_hasField : Int32} {p0_fieldSize : Int32} {p0_faultNow : Int32} {p0_hasTree : Int32} {p0_treeSize : Int32} {p0_weightCount : Int32} {p0_roundCount : Int32} {p0_setCount : Int32} {p0_sort : Nat → Int32} {a1 : Int32} {a2 : Int32} {post : Int32 → Prop} (hw : w_X10_isOf p0_steps p0_sort a1 a2 post) : Met l yX10_isOf wsX10_isOf ({ frames := 1, cells := 0, slots := 0, locals := 22 }) (va_Pc [.ref h_p0, .int a1, .int a2] (xPre (dC, dI) cI cJ cZ (wld_X10_isOf cI cJ cZ h_p0 ad_p0 p0_places p0_steps p0_pastFirst p0_past p0_goings p0_rowSize p0_ways p0_hasField p0_fieldSize p0_faultNow p0_hasTree p0_treeSize p0_weightCount p0_roundCount p0_setCount p0_sort) sz)) (q_X10_isOf dC dI cI cJ cZ h_p0 ad_p0 p0_places p0_steps p0_pastFirst p0_past p0_goings p0_rowSize p0_ways p0_hasField p0_fieldSize p0_faultNow p0_hasTree p0_treeSize p0_weightCount p0_roundCount p0_setCount p0_sort post (va_A (wld_X10_isOf cI cJ cZ h_p0 ad_p0 p0_places p0_steps p0_pastFirst p0_past p0_goings p0_rowSize p0_ways p0_hasField p0_fieldSize p0_faultNow p0_hasTree p0_treeSize p0_weightCount p0_roundCount p0_setCount p0_sort) sz)) 0 0 (va_A (wld_X10_isOf cI cJ cZ h_p0 ad_p0 p0_places p0_steps p0_pastFirst p0_past p0_goings p0_rowSize p0_ways p0_hasField p0_fieldSize p0_faultNow p0_hasTree p0_treeSize p0_weightCount p0_roundCount p0_setCount p0_sort) sz) := by
  refine x_met (cc := cX10_isOf) (maxL := 3) (ret := (some .int)) (own := RX10) (Qc := fun A => (q_X10_isOf dC dI cI cJ cZ h_p0 ad_p0 p0_places p0_steps p0_pastFirst p0_past p0_goings p0_rowSize p0_ways p0_hasField p0_fieldSize p0_faultNow p0_hasTree p0_treeSize p0_weightCount p0_roundCount p0_setCount p0_sort post A)) (by decide) rfl rfl (Nat.le_of_ble_eq_true rfl) ?_
  intro p e s m args below meth c A ls E0 hP hD hS hl
  obtain ⟨hx, hb, hr, hml, hown, hts, hlocks, hK, hA, n1, n2⟩ := id E0
  have iX10 : ∀ w ∈ u_ws RX10 TX10 50, w ∈ wsX10_isOf := fun w h => List.mem_cons_of_mem _ (List.mem_append_right _ h)
  have hS0 := hS
  have hl : lv_has ls 3 [(0, .ref h_p0), (1, .int a1), (2, .int a2)] := hl
  unfold w_X10_isOf at hw
  obtain ⟨H, hH⟩ : ∃ H, H = s.heap := ⟨_, rfl⟩
  have hS : va_S A s.heap H [] := by rw [hH]; exact hS
  have hP : va_P (dC, dI) vwCl (wld_X10_isOf cI cJ cZ h_p0 ad_p0 p0_places p0_steps p0_pastFirst p0_past p0_goings p0_rowSize p0_ways p0_hasField p0_fieldSize p0_faultNow p0_hasTree p0_treeSize p0_weightCount p0_roundCount p0_setCount p0_sort) H := by rw [hH]; exact hP
  suffices hG : W p l e ({ frames := 1, cells := 0, slots := 0, locals := 22 }) s m args below meth c H [] 0 0 (MQ below (q_X10_isOf dC dI cI cJ cZ h_p0 ad_p0 p0_places p0_steps p0_pastFirst p0_past p0_goings p0_rowSize p0_ways p0_hasField p0_fieldSize p0_faultNow p0_hasTree p0_treeSize p0_weightCount p0_roundCount p0_setCount p0_sort post A) args s 0 0 A) (F0 m 0 ls []) by rw [hH] at hG; exact hG
  clear hH
  refine lv_aload_n hx hb dX10_isOf_0 rfl (lv_at hl 0 rfl) ?_
  refine lv_iload_n hx hb dX10_isOf_1 rfl (lv_at hl 1 rfl) ?_
  obtain ⟨hPc, hDc⟩ := x_sub (wc := (wld_X10_isStep cI cJ cZ h_p0 ad_p0 p0_places p0_steps p0_pastFirst p0_past p0_goings p0_rowSize p0_ways p0_hasField p0_fieldSize p0_faultNow p0_hasTree p0_treeSize p0_weightCount p0_roundCount p0_setCount)) hP hD [0] (n := 2) rfl rfl (by decide +kernel)
  refine x_calli (ws' := fun (u : Unit) => (wld_X10_isOf cI cJ cZ h_p0 ad_p0 p0_places p0_steps p0_pastFirst p0_past p0_goings p0_rowSize p0_ways p0_hasField p0_fieldSize p0_faultNow p0_hasTree p0_treeSize p0_weightCount p0_roundCount p0_setCount p0_sort)) hP hD hS hA [0] [1] [1, 0] (n := 2) (k := 1) rfl (fun _ => rfl) rfl (by decide +kernel) (fun _ => rfl) (va_runV (As := [.int a1]) (rest := []) ⟨hx, hb, hml, hown, hts⟩ (c_X10_isStep (l := l) (dC := dC) (dI := dI) (cI := cI) (cJ := cJ) (cZ := cZ) (sz := H.size) (h_p0 := h_p0) (ad_p0 := ad_p0) (p0_places := p0_places) (p0_steps := p0_steps) (p0_pastFirst := p0_pastFirst) (p0_past := p0_past) (p0_goings := p0_goings) (p0_rowSize := p0_rowSize) (p0_ways := p0_ways) (p0_hasField := p0_hasField) (p0_fieldSize := p0_fieldSize) (p0_faultNow := p0_faultNow) (p0_hasTree := p0_hasTree) (p0_treeSize := p0_treeSize) (p0_weightCount := p0_weightCount) (p0_roundCount := p0_roundCount) (p0_setCount := p0_setCount) hw) (cwV 1 hts gX10_isOf_X10_isStep rfl rfl rfl (by decide +kernel) ⟨Nat.le_of_ble_eq_true rfl, Nat.le_of_ble_eq_true rfl⟩) ⟨xPre_blind, va_recv hK hP (ci := 10) (q0 := 0) rfl rfl, xPre_at hK hPc hDc n1 n2⟩ rfl rfl hl.1 rfl (lv_room (Nat.le_of_ble_eq_true rfl)) dX10_isOf_2 ⟨Nat.zero_le _, Nat.zero_le _⟩) (fun r1 u H locs hw hP hD hS => ?_)
  try dsimp only at hw
  have hP : va_P (dC, dI) vwCl (wld_X10_isOf cI cJ cZ h_p0 ad_p0 p0_places p0_steps p0_pastFirst p0_past p0_goings p0_rowSize p0_ways p0_hasField p0_fieldSize p0_faultNow p0_hasTree p0_treeSize p0_weightCount p0_roundCount p0_setCount p0_sort) H := hP
  have hD : va_D A (wld_X10_isOf cI cJ cZ h_p0 ad_p0 p0_places p0_steps p0_pastFirst p0_past p0_goings p0_rowSize p0_ways p0_hasField p0_fieldSize p0_faultNow p0_hasTree p0_treeSize p0_weightCount p0_roundCount p0_setCount p0_sort) := hD
  refine lv_if_eq (tgt := 17) hx hb dX10_isOf_5 (by decide) (fun c2 => ?_) (fun c3 => ?_)
  · have hw := hw.1 c2
    refine lv_ldc (v := -2000000001) hx hb hown (hts (.constant RX10 159 (-2000000001)) (by decide +kernel)) dX10_isOf_17 ?_
    exact x_iret (w1 := fun (u : Unit) => (wld_X10_isOf cI cJ cZ h_p0 ad_p0 p0_places p0_steps p0_pastFirst p0_past p0_goings p0_rowSize p0_ways p0_hasField p0_fieldSize p0_faultNow p0_hasTree p0_treeSize p0_weightCount p0_roundCount p0_setCount p0_sort)) hx hb hr hlocks () hw hP hD hS dX10_isOf_19
  · have hw := hw.2 c3
    refine lv_iload_n hx hb dX10_isOf_8 rfl (lv_at hl 2 rfl) ?_
    refine lv_iconst (v := 0) hx hb dX10_isOf_9 (by decide) ?_
    refine lv_iconst (v := 3) hx hb dX10_isOf_10 (by decide) ?_
    obtain ⟨hPc, hDc⟩ := x_sub (wc := (wld_X10_isIn cI cJ cZ )) hP hD [] (n := 2) rfl rfl (by decide +kernel)
    refine x_calli (ws' := fun (u : Unit) => (wld_X10_isOf cI cJ cZ h_p0 ad_p0 p0_places p0_steps p0_pastFirst p0_past p0_goings p0_rowSize p0_ways p0_hasField p0_fieldSize p0_faultNow p0_hasTree p0_treeSize p0_weightCount p0_roundCount p0_setCount p0_sort)) hP hD hS hA [] [0, 1] [0, 1] (n := 2) (k := 0) rfl (fun _ => rfl) rfl (by decide +kernel) (fun _ => rfl) (va_runS (As := [.int a2, .int (0 : Int32), .int (3 : Int32)]) (rest := []) ⟨hx, hb, hml, hown, hts⟩ (c_X10_isIn (l := l) (dC := dC) (dI := dI) (cI := cI) (cJ := cJ) (cZ := cZ) (sz := H.size) hw) (va_cwS 3 hts gX10_isOf_X10_isIn rfl rfl rfl (by decide +kernel) ⟨Nat.le_of_ble_eq_true rfl, Nat.le_of_ble_eq_true rfl⟩) ⟨xPre_blind, xPre_at hK hPc hDc n1 n2⟩ rfl rfl hl.1 rfl (lv_room (Nat.le_of_ble_eq_true rfl)) dX10_isOf_11 ⟨Nat.zero_le _, Nat.zero_le _⟩) (fun r4 u H locs hw hP hD hS => ?_)
    try dsimp only at hw
    have hP : va_P (dC, dI) vwCl (wld_X10_isOf cI cJ cZ h_p0 ad_p0 p0_places p0_steps p0_pastFirst p0_past p0_goings p0_rowSize p0_ways p0_hasField p0_fieldSize p0_faultNow p0_hasTree p0_treeSize p0_weightCount p0_roundCount p0_setCount p0_sort) H := hP
    have hD : va_D A (wld_X10_isOf cI cJ cZ h_p0 ad_p0 p0_places p0_steps p0_pastFirst p0_past p0_goings p0_rowSize p0_ways p0_hasField p0_fieldSize p0_faultNow p0_hasTree p0_treeSize p0_weightCount p0_roundCount p0_setCount p0_sort) := hD
    refine lv_if_ne (tgt := 20) hx hb dX10_isOf_14 (by decide) (fun c5 => ?_) (fun c6 => ?_)
    · have hw := hw.1 c5
      refine lv_aload_n hx hb dX10_isOf_20 rfl (lv_at hl 0 rfl) ?_
      refine va_get (D := (dC, dI)) (ci := 10) (v := .ref (ad_p0 3)) (C := RX10) (T := TX10) (N := 50) hx hb hts iX10 hown hK hP 0 rfl rfl 3 (by decide) (hts (.fieldLink RX10 13 "NetHouseModel" "sort" "[I") (by decide +kernel)) (fun _ h9 => h9) rfl dX10_isOf_21 ?_
      refine lv_iload_n hx hb dX10_isOf_24 rfl (lv_at hl 1 rfl) ?_
      refine va_iald hx hb hK hP 1 0 rfl rfl hw.1 dX10_isOf_25 ?_
      have hw := hw.2
      refine lv_iload_n hx hb dX10_isOf_26 rfl (lv_at hl 2 rfl) ?_
      refine lv_icmp_lt (tgt := 34) hx hb dX10_isOf_27 (by decide) (fun c7 => ?_) (fun c8 => ?_)
      · have hw := hw.1 c7
        refine lv_iconst (v := 0) hx hb dX10_isOf_34 (by decide) ?_
        exact x_iret (w1 := fun (u : Unit) => (wld_X10_isOf cI cJ cZ h_p0 ad_p0 p0_places p0_steps p0_pastFirst p0_past p0_goings p0_rowSize p0_ways p0_hasField p0_fieldSize p0_faultNow p0_hasTree p0_treeSize p0_weightCount p0_roundCount p0_setCount p0_sort)) hx hb hr hlocks () hw hP hD hS dX10_isOf_35
      · have hw := hw.2 c8
        refine lv_iconst (v := 1) hx hb dX10_isOf_30 (by decide) ?_
        refine lv_goto (tgt := 35) hx hb dX10_isOf_31 (by decide) ?_
        exact x_iret (w1 := fun (u : Unit) => (wld_X10_isOf cI cJ cZ h_p0 ad_p0 p0_places p0_steps p0_pastFirst p0_past p0_goings p0_rowSize p0_ways p0_hasField p0_fieldSize p0_faultNow p0_hasTree p0_treeSize p0_weightCount p0_roundCount p0_setCount p0_sort)) hx hb hr hlocks () hw hP hD hS dX10_isOf_35
    · have hw := hw.2 c6
      refine lv_ldc (v := -2000000001) hx hb hown (hts (.constant RX10 159 (-2000000001)) (by decide +kernel)) dX10_isOf_17 ?_
      exact x_iret (w1 := fun (u : Unit) => (wld_X10_isOf cI cJ cZ h_p0 ad_p0 p0_places p0_steps p0_pastFirst p0_past p0_goings p0_rowSize p0_ways p0_hasField p0_fieldSize p0_faultNow p0_hasTree p0_treeSize p0_weightCount p0_roundCount p0_setCount p0_sort)) hx hb hr hlocks () hw hP hD hS dX10_isOf_19
abbrev wld_X10_mark (cI cJ cZ : ClassId) (h_p0 : Nat) (ad_p0 : Nat → Nat) (p0_places : Int32) (p0_steps : Int32) (p0_pastFirst : Int32) (p0_past : Int32) (p0_goings : Int32) (p0_rowSize : Int32) (p0_ways : Int32) (p0_hasField : Int32) (p0_fieldSize : Int32) (p0_faultNow : Int32) (p0_hasTree : Int32) (p0_treeSize : Int32) (p0_weightCount : Int32) (p0_roundCount : Int32) (p0_setCount : Int32) (p0_colour : Nat → Int32) (p0_has : Nat → Int32) : va_W := [(h_p0, .inr (10, [.int p0_places, .int p0_steps, .ref (ad_p0 2), .ref (ad_p0 3), .ref (ad_p0 4), .ref (ad_p0 5), .ref (ad_p0 6), .ref (ad_p0 7), .ref (ad_p0 8), .ref (ad_p0 9), .ref (ad_p0 10), .ref (ad_p0 11), .ref (ad_p0 12), .ref (ad_p0 13), .ref (ad_p0 14), .int p0_pastFirst, .int p0_past, .int p0_goings, .int p0_rowSize, .ref (ad_p0 19), .ref (ad_p0 20), .int p0_ways, .ref (ad_p0 22), .ref (ad_p0 23), .int p0_hasField, .int p0_fieldSize, .ref (ad_p0 26), .ref (ad_p0 27), .ref (ad_p0 28), .ref (ad_p0 29), .ref (ad_p0 30), .ref (ad_p0 31), .ref (ad_p0 32), .int p0_faultNow, .int p0_hasTree, .int p0_treeSize, .ref (ad_p0 36), .ref (ad_p0 37), .ref (ad_p0 38), .ref (ad_p0 39), .ref (ad_p0 40), .ref (ad_p0 41), .ref (ad_p0 42), .int p0_weightCount, .ref (ad_p0 44), .int p0_roundCount, .ref (ad_p0 46), .int p0_setCount, .ref (ad_p0 48), .ref (ad_p0 49)])), ((ad_p0 2), .inl (cI, 16, .inl p0_colour)), ((ad_p0 10), .inl (cI, 16, .inl p0_has))]
abbrev q_X10_mark (dC : Nat → ClassId) (dI : Nat → Nat → Nat) (cI cJ cZ : ClassId) (h_p0 : Nat) (ad_p0 : Nat → Nat) (p0_places : Int32) (p0_steps : Int32) (p0_pastFirst : Int32) (p0_past : Int32) (p0_goings : Int32) (p0_rowSize : Int32) (p0_ways : Int32) (p0_hasField : Int32) (p0_fieldSize : Int32) (p0_faultNow : Int32) (p0_hasTree : Int32) (p0_treeSize : Int32) (p0_weightCount : Int32) (p0_roundCount : Int32) (p0_setCount : Int32) (p0_colour : Nat → Int32) (p0_has : Nat → Int32) (post : Int32 → (Int32) → (Nat → Int32) → Prop) (A : Nat → Prop) : Array Value → State → Outcome → State → Prop := va_Qi (fun r (u : (Int32) × (Nat → Int32)) => post r (u.1) (u.2)) (fun (u : (Int32) × (Nat → Int32)) t => xPost (dC, dI) A (wld_X10_mark cI cJ cZ h_p0 ad_p0 p0_places p0_steps p0_pastFirst (u.1) p0_goings p0_rowSize p0_ways p0_hasField p0_fieldSize p0_faultNow p0_hasTree p0_treeSize p0_weightCount p0_roundCount p0_setCount p0_colour (u.2)) t) A
def w_X10_mark (p0_past : Int32) (p0_places : Int32) (p0_colour : Nat → Int32) (p0_has : Nat → Int32) (a1 : Int32) (a2 : Int32) (post : Int32 → (Int32) → (Nat → Int32) → Prop) : Prop :=
  w_X10_isPlace p0_places a1 (fun r1 =>
  (r1 = 0 →
    (post (-2000000001 : Int32) p0_past p0_has)) ∧
  (¬ r1 = 0 →
    w_X10_isIn a2 (0 : Int32) (1000000 : Int32) (fun r4 =>
    (¬ r4 = 0 →
      vp_in a1 16 ∧
      (¬ (p0_colour a1.toNatClampNeg) = (1 : Int32) →
        vp_in a1 16 ∧
        ∀ x9 : Int32, x9 = (p0_has a1.toNatClampNeg) →
        vp_in a1 16 ∧
        (post x9 (0 : Int32) (upd p0_has a1.toNatClampNeg a2))) ∧
      ((p0_colour a1.toNatClampNeg) = (1 : Int32) →
        (post (-2000000002 : Int32) p0_past p0_has))) ∧
    (r4 = 0 →
      (post (-2000000001 : Int32) p0_past p0_has)))))
set_option maxHeartbeats 4000000 in
set_option maxRecDepth 100000 in
theorem c_X10_mark {l : Launch} {dC : Nat → ClassId} {dI : Nat → Nat → Nat} {sz : Nat} {cI cJ cZ : ClassId} {h_p0 : Nat} {ad_p0 : Nat → Nat} {p0_places : Int32} {p0_steps : Int32} {p0_pastFirst : Int32} {p0_past : Int32} {p0_goings : Int32} {p0_rowSize : Int32} {p0_ways : Int32} {p0_hasField : Int32} {p0_fieldSize : Int32} {p0_faultNow : Int32} {p0_hasTree : Int32} {p0_treeSize : Int32} {p0_weightCount : Int32} {p0_roundCount : Int32} {p0_setCount : Int32} {p0_colour : Nat → Int32} {p0_has : Nat → Int32} {a1 : Int32} {a2 : Int32} {post : Int32 → (Int32) → (Nat → Int32) → Prop} (hw : w_X10_mark p0_past p0_places p0_colour p0_has a1 a2 post) : Met l yX10_mark wsX10_mark ({ frames := 1, cells := 0, slots := 0, locals := 22 }) (va_Pc [.ref h_p0, .int a1, .int a2] (xPre (dC, dI) cI cJ cZ (wld_X10_mark cI cJ cZ h_p0 ad_p0 p0_places p0_steps p0_pastFirst p0_past p0_goings p0_rowSize p0_ways p0_hasField p0_fieldSize p0_faultNow p0_hasTree p0_treeSize p0_weightCount p0_roundCount p0_setCount p0_colour p0_has) sz)) (q_X10_mark dC dI cI cJ cZ h_p0 ad_p0 p0_places p0_steps p0_pastFirst p0_past p0_goings p0_rowSize p0_ways p0_hasField p0_fieldSize p0_faultNow p0_hasTree p0_treeSize p0_weightCount p0_roundCount p0_setCount p0_colour p0_has post (va_A (wld_X10_mark cI cJ cZ h_p0 ad_p0 p0_places p0_steps p0_pastFirst p0_past p0_goings p0_rowSize p0_ways p0_hasField p0_fieldSize p0_faultNow p0_hasTree p0_treeSize p0_weightCount p0_roundCount p0_setCount p0_colour p0_has) sz)) 0 0 (va_A (wld_X10_mark cI cJ cZ h_p0 ad_p0 p0_places p0_steps p0_pastFirst p0_past p0_goings p0_rowSize p0_ways p0_hasField p0_fieldSize p0_faultNow p0_hasTree p0_treeSize p0_weightCount p0_roundCount p0_setCount p0_colour p0_has) sz) := by
  refine x_met (cc := cX10_mark) (maxL := 4) (ret := (some .int)) (own := RX10) (Qc := fun A => (q_X10_mark dC dI cI cJ cZ h_p0 ad_p0 p0_places p0_steps p0_pastFirst p0_past p0_goings p0_rowSize p0_ways p0_hasField p0_fieldSize p0_faultNow p0_hasTree p0_treeSize p0_weightCount p0_roundCount p0_setCount p0_colour p0_has post A)) (by decide) rfl rfl (Nat.le_of_ble_eq_true rfl) ?_
  intro p e s m args below meth c A ls E0 hP hD hS hl
  obtain ⟨hx, hb, hr, hml, hown, hts, hlocks, hK, hA, n1, n2⟩ := id E0
  have iX10 : ∀ w ∈ u_ws RX10 TX10 50, w ∈ wsX10_mark := fun w h => List.mem_cons_of_mem _ (List.mem_append_right _ h)
  have hS0 := hS
  have hl : lv_has ls 4 [(0, .ref h_p0), (1, .int a1), (2, .int a2)] := hl
  unfold w_X10_mark at hw
  obtain ⟨H, hH⟩ : ∃ H, H = s.heap := ⟨_, rfl⟩
  have hS : va_S A s.heap H [] := by rw [hH]; exact hS
  have hP : va_P (dC, dI) vwCl (wld_X10_mark cI cJ cZ h_p0 ad_p0 p0_places p0_steps p0_pastFirst p0_past p0_goings p0_rowSize p0_ways p0_hasField p0_fieldSize p0_faultNow p0_hasTree p0_treeSize p0_weightCount p0_roundCount p0_setCount p0_colour p0_has) H := by rw [hH]; exact hP
  suffices hG : W p l e ({ frames := 1, cells := 0, slots := 0, locals := 22 }) s m args below meth c H [] 0 0 (MQ below (q_X10_mark dC dI cI cJ cZ h_p0 ad_p0 p0_places p0_steps p0_pastFirst p0_past p0_goings p0_rowSize p0_ways p0_hasField p0_fieldSize p0_faultNow p0_hasTree p0_treeSize p0_weightCount p0_roundCount p0_setCount p0_colour p0_has post A) args s 0 0 A) (F0 m 0 ls []) by rw [hH] at hG; exact hG
  clear hH
  refine lv_aload_n hx hb dX10_mark_0 rfl (lv_at hl 0 rfl) ?_
  refine lv_iload_n hx hb dX10_mark_1 rfl (lv_at hl 1 rfl) ?_
  obtain ⟨hPc, hDc⟩ := x_sub (wc := (wld_X10_isPlace cI cJ cZ h_p0 ad_p0 p0_places p0_steps p0_pastFirst p0_past p0_goings p0_rowSize p0_ways p0_hasField p0_fieldSize p0_faultNow p0_hasTree p0_treeSize p0_weightCount p0_roundCount p0_setCount)) hP hD [0] (n := 3) rfl rfl (by decide +kernel)
  refine x_calli (ws' := fun (u : Unit) => (wld_X10_mark cI cJ cZ h_p0 ad_p0 p0_places p0_steps p0_pastFirst p0_past p0_goings p0_rowSize p0_ways p0_hasField p0_fieldSize p0_faultNow p0_hasTree p0_treeSize p0_weightCount p0_roundCount p0_setCount p0_colour p0_has)) hP hD hS hA [0] [1, 2] [2, 0, 1] (n := 3) (k := 1) rfl (fun _ => rfl) rfl (by decide +kernel) (fun _ => rfl) (va_runV (As := [.int a1]) (rest := []) ⟨hx, hb, hml, hown, hts⟩ (c_X10_isPlace (l := l) (dC := dC) (dI := dI) (cI := cI) (cJ := cJ) (cZ := cZ) (sz := H.size) (h_p0 := h_p0) (ad_p0 := ad_p0) (p0_places := p0_places) (p0_steps := p0_steps) (p0_pastFirst := p0_pastFirst) (p0_past := p0_past) (p0_goings := p0_goings) (p0_rowSize := p0_rowSize) (p0_ways := p0_ways) (p0_hasField := p0_hasField) (p0_fieldSize := p0_fieldSize) (p0_faultNow := p0_faultNow) (p0_hasTree := p0_hasTree) (p0_treeSize := p0_treeSize) (p0_weightCount := p0_weightCount) (p0_roundCount := p0_roundCount) (p0_setCount := p0_setCount) hw) (cwV 1 hts gX10_mark_X10_isPlace rfl rfl rfl (by decide +kernel) ⟨Nat.le_of_ble_eq_true rfl, Nat.le_of_ble_eq_true rfl⟩) ⟨xPre_blind, va_recv hK hP (ci := 10) (q0 := 0) rfl rfl, xPre_at hK hPc hDc n1 n2⟩ rfl rfl hl.1 rfl (lv_room (Nat.le_of_ble_eq_true rfl)) dX10_mark_2 ⟨Nat.zero_le _, Nat.zero_le _⟩) (fun r1 u H locs hw hP hD hS => ?_)
  try dsimp only at hw
  have hP : va_P (dC, dI) vwCl (wld_X10_mark cI cJ cZ h_p0 ad_p0 p0_places p0_steps p0_pastFirst p0_past p0_goings p0_rowSize p0_ways p0_hasField p0_fieldSize p0_faultNow p0_hasTree p0_treeSize p0_weightCount p0_roundCount p0_setCount p0_colour p0_has) H := hP
  have hD : va_D A (wld_X10_mark cI cJ cZ h_p0 ad_p0 p0_places p0_steps p0_pastFirst p0_past p0_goings p0_rowSize p0_ways p0_hasField p0_fieldSize p0_faultNow p0_hasTree p0_treeSize p0_weightCount p0_roundCount p0_setCount p0_colour p0_has) := hD
  refine lv_if_eq (tgt := 18) hx hb dX10_mark_5 (by decide) (fun c2 => ?_) (fun c3 => ?_)
  · have hw := hw.1 c2
    refine lv_ldc (v := -2000000001) hx hb hown (hts (.constant RX10 159 (-2000000001)) (by decide +kernel)) dX10_mark_18 ?_
    exact x_iret (w1 := fun (u : (Int32) × (Nat → Int32)) => (wld_X10_mark cI cJ cZ h_p0 ad_p0 p0_places p0_steps p0_pastFirst (u.1) p0_goings p0_rowSize p0_ways p0_hasField p0_fieldSize p0_faultNow p0_hasTree p0_treeSize p0_weightCount p0_roundCount p0_setCount p0_colour (u.2))) hx hb hr hlocks (p0_past, p0_has) hw hP hD hS dX10_mark_20
  · have hw := hw.2 c3
    refine lv_iload_n hx hb dX10_mark_8 rfl (lv_at hl 2 rfl) ?_
    refine lv_iconst (v := 0) hx hb dX10_mark_9 (by decide) ?_
    refine lv_ldc (v := 1000000) hx hb hown (hts (.constant RX10 172 (1000000)) (by decide +kernel)) dX10_mark_10 ?_
    obtain ⟨hPc, hDc⟩ := x_sub (wc := (wld_X10_isIn cI cJ cZ )) hP hD [] (n := 3) rfl rfl (by decide +kernel)
    refine x_calli (ws' := fun (u : Unit) => (wld_X10_mark cI cJ cZ h_p0 ad_p0 p0_places p0_steps p0_pastFirst p0_past p0_goings p0_rowSize p0_ways p0_hasField p0_fieldSize p0_faultNow p0_hasTree p0_treeSize p0_weightCount p0_roundCount p0_setCount p0_colour p0_has)) hP hD hS hA [] [0, 1, 2] [0, 1, 2] (n := 3) (k := 0) rfl (fun _ => rfl) rfl (by decide +kernel) (fun _ => rfl) (va_runS (As := [.int a2, .int (0 : Int32), .int (1000000 : Int32)]) (rest := []) ⟨hx, hb, hml, hown, hts⟩ (c_X10_isIn (l := l) (dC := dC) (dI := dI) (cI := cI) (cJ := cJ) (cZ := cZ) (sz := H.size) hw) (va_cwS 3 hts gX10_mark_X10_isIn rfl rfl rfl (by decide +kernel) ⟨Nat.le_of_ble_eq_true rfl, Nat.le_of_ble_eq_true rfl⟩) ⟨xPre_blind, xPre_at hK hPc hDc n1 n2⟩ rfl rfl hl.1 rfl (lv_room (Nat.le_of_ble_eq_true rfl)) dX10_mark_12 ⟨Nat.zero_le _, Nat.zero_le _⟩) (fun r4 u H locs hw hP hD hS => ?_)
    try dsimp only at hw
    have hP : va_P (dC, dI) vwCl (wld_X10_mark cI cJ cZ h_p0 ad_p0 p0_places p0_steps p0_pastFirst p0_past p0_goings p0_rowSize p0_ways p0_hasField p0_fieldSize p0_faultNow p0_hasTree p0_treeSize p0_weightCount p0_roundCount p0_setCount p0_colour p0_has) H := hP
    have hD : va_D A (wld_X10_mark cI cJ cZ h_p0 ad_p0 p0_places p0_steps p0_pastFirst p0_past p0_goings p0_rowSize p0_ways p0_hasField p0_fieldSize p0_faultNow p0_hasTree p0_treeSize p0_weightCount p0_roundCount p0_setCount p0_colour p0_has) := hD
    refine lv_if_ne (tgt := 21) hx hb dX10_mark_15 (by decide) (fun c5 => ?_) (fun c6 => ?_)
    · have hw := hw.1 c5
      refine lv_aload_n hx hb dX10_mark_21 rfl (lv_at hl 0 rfl) ?_
      refine va_get (D := (dC, dI)) (ci := 10) (v := .ref (ad_p0 2)) (C := RX10) (T := TX10) (N := 50) hx hb hts iX10 hown hK hP 0 rfl rfl 2 (by decide) (hts (.fieldLink RX10 7 "NetHouseModel" "colour" "[I") (by decide +kernel)) (fun _ h9 => h9) rfl dX10_mark_22 ?_
      refine lv_iload_n hx hb dX10_mark_25 rfl (lv_at hl 1 rfl) ?_
      refine va_iald hx hb hK hP 1 0 rfl rfl hw.1 dX10_mark_26 ?_
      have hw := hw.2
      refine lv_iconst (v := 1) hx hb dX10_mark_27 (by decide) ?_
      refine lv_icmp_ne (tgt := 34) hx hb dX10_mark_28 (by decide) (fun c7 => ?_) (fun c8 => ?_)
      · have hw := hw.1 c7
        refine lv_aload_n hx hb dX10_mark_34 rfl (lv_at hl 0 rfl) ?_
        refine va_get (D := (dC, dI)) (ci := 10) (v := .ref (ad_p0 10)) (C := RX10) (T := TX10) (N := 50) hx hb hts iX10 hown hK hP 0 rfl rfl 10 (by decide) (hts (.fieldLink RX10 34 "NetHouseModel" "has" "[I") (by decide +kernel)) (fun _ h9 => h9) rfl dX10_mark_35 ?_
        refine lv_iload_n hx hb dX10_mark_38 rfl (lv_at hl 1 rfl) ?_
        refine va_iald hx hb hK hP 2 0 rfl rfl hw.1 dX10_mark_39 ?_
        have hw := hw.2
        refine lv_topi (fun x9 ex9 => ?_)
        have hw := hw x9 ex9
        refine lv_istore_n (lv' := [(3, .int x9), (0, .ref h_p0), (1, .int a1), (2, .int a2)]) hx hb dX10_mark_40 rfl hl (by decide) rfl (fun ls hl => ?_)
        refine lv_aload_n hx hb dX10_mark_41 rfl (lv_at hl 1 rfl) ?_
        refine va_get (D := (dC, dI)) (ci := 10) (v := .ref (ad_p0 10)) (C := RX10) (T := TX10) (N := 50) hx hb hts iX10 hown hK hP 0 rfl rfl 10 (by decide) (hts (.fieldLink RX10 34 "NetHouseModel" "has" "[I") (by decide +kernel)) (fun _ h9 => h9) rfl dX10_mark_42 ?_
        refine lv_iload_n hx hb dX10_mark_45 rfl (lv_at hl 2 rfl) ?_
        refine lv_iload_n hx hb dX10_mark_46 rfl (lv_at hl 3 rfl) ?_
        refine va_iast hx hb hK hP hD hS 2 0 rfl rfl hw.1 dX10_mark_47 (fun H locs hP hD hS => ?_)
        have hw := hw.2
        have hP : va_P (dC, dI) vwCl (wld_X10_mark cI cJ cZ h_p0 ad_p0 p0_places p0_steps p0_pastFirst p0_past p0_goings p0_rowSize p0_ways p0_hasField p0_fieldSize p0_faultNow p0_hasTree p0_treeSize p0_weightCount p0_roundCount p0_setCount p0_colour (upd p0_has a1.toNatClampNeg a2)) H := hP
        have hD : va_D A (wld_X10_mark cI cJ cZ h_p0 ad_p0 p0_places p0_steps p0_pastFirst p0_past p0_goings p0_rowSize p0_ways p0_hasField p0_fieldSize p0_faultNow p0_hasTree p0_treeSize p0_weightCount p0_roundCount p0_setCount p0_colour (upd p0_has a1.toNatClampNeg a2)) := hD
        refine lv_aload_n hx hb dX10_mark_48 rfl (lv_at hl 1 rfl) ?_
        refine lv_iconst (v := 0) hx hb dX10_mark_49 (by decide) ?_
        refine va_put (D := (dC, dI)) (ci := 10) (v := .int (0 : Int32)) (ty := .int) (C := RX10) (T := TX10) (N := 50) hx hb hts iX10 tyX10 tyX10_ok nmX10 hown hK hP hD hS 0 rfl rfl 16 (by decide) (hts (.fieldLink RX10 152 "NetHouseModel" "past" "I") (by decide +kernel)) (fun _ h9 => h9) rfl (by decide +kernel) rfl rfl (Nat.le_of_ble_eq_true rfl) dX10_mark_50 (fun H locs hP hD hS => ?_)
        have hP : va_P (dC, dI) vwCl (wld_X10_mark cI cJ cZ h_p0 ad_p0 p0_places p0_steps p0_pastFirst (0 : Int32) p0_goings p0_rowSize p0_ways p0_hasField p0_fieldSize p0_faultNow p0_hasTree p0_treeSize p0_weightCount p0_roundCount p0_setCount p0_colour (upd p0_has a1.toNatClampNeg a2)) H := hP
        have hD : va_D A (wld_X10_mark cI cJ cZ h_p0 ad_p0 p0_places p0_steps p0_pastFirst (0 : Int32) p0_goings p0_rowSize p0_ways p0_hasField p0_fieldSize p0_faultNow p0_hasTree p0_treeSize p0_weightCount p0_roundCount p0_setCount p0_colour (upd p0_has a1.toNatClampNeg a2)) := hD
        refine lv_iload_n hx hb dX10_mark_53 rfl (lv_at hl 0 rfl) ?_
        exact x_iret (w1 := fun (u : (Int32) × (Nat → Int32)) => (wld_X10_mark cI cJ cZ h_p0 ad_p0 p0_places p0_steps p0_pastFirst (u.1) p0_goings p0_rowSize p0_ways p0_hasField p0_fieldSize p0_faultNow p0_hasTree p0_treeSize p0_weightCount p0_roundCount p0_setCount p0_colour (u.2))) hx hb hr hlocks ((0 : Int32), (upd p0_has a1.toNatClampNeg a2)) hw hP hD hS dX10_mark_54
      · have hw := hw.2 c8
        refine lv_ldc (v := -2000000002) hx hb hown (hts (.constant RX10 171 (-2000000002)) (by decide +kernel)) dX10_mark_31 ?_
        exact x_iret (w1 := fun (u : (Int32) × (Nat → Int32)) => (wld_X10_mark cI cJ cZ h_p0 ad_p0 p0_places p0_steps p0_pastFirst (u.1) p0_goings p0_rowSize p0_ways p0_hasField p0_fieldSize p0_faultNow p0_hasTree p0_treeSize p0_weightCount p0_roundCount p0_setCount p0_colour (u.2))) hx hb hr hlocks (p0_past, p0_has) hw hP hD hS dX10_mark_33
    · have hw := hw.2 c6
      refine lv_ldc (v := -2000000001) hx hb hown (hts (.constant RX10 159 (-2000000001)) (by decide +kernel)) dX10_mark_18 ?_
      exact x_iret (w1 := fun (u : (Int32) × (Nat → Int32)) => (wld_X10_mark cI cJ cZ h_p0 ad_p0 p0_places p0_steps p0_pastFirst (u.1) p0_goings p0_rowSize p0_ways p0_hasField p0_fieldSize p0_faultNow p0_hasTree p0_treeSize p0_weightCount p0_roundCount p0_setCount p0_colour (u.2))) hx hb hr hlocks (p0_past, p0_has) hw hP hD hS dX10_mark_20
abbrev wld_X10_thing (cI cJ cZ : ClassId) (h_p0 : Nat) (ad_p0 : Nat → Nat) (p0_places : Int32) (p0_steps : Int32) (p0_pastFirst : Int32) (p0_past : Int32) (p0_goings : Int32) (p0_rowSize : Int32) (p0_ways : Int32) (p0_hasField : Int32) (p0_fieldSize : Int32) (p0_faultNow : Int32) (p0_hasTree : Int32) (p0_treeSize : Int32) (p0_weightCount : Int32) (p0_roundCount : Int32) (p0_setCount : Int32) (p0_colour : Nat → Int32) (p0_has : Nat → Int32) (p0_things : Nat → Int32) : va_W := [(h_p0, .inr (10, [.int p0_places, .int p0_steps, .ref (ad_p0 2), .ref (ad_p0 3), .ref (ad_p0 4), .ref (ad_p0 5), .ref (ad_p0 6), .ref (ad_p0 7), .ref (ad_p0 8), .ref (ad_p0 9), .ref (ad_p0 10), .ref (ad_p0 11), .ref (ad_p0 12), .ref (ad_p0 13), .ref (ad_p0 14), .int p0_pastFirst, .int p0_past, .int p0_goings, .int p0_rowSize, .ref (ad_p0 19), .ref (ad_p0 20), .int p0_ways, .ref (ad_p0 22), .ref (ad_p0 23), .int p0_hasField, .int p0_fieldSize, .ref (ad_p0 26), .ref (ad_p0 27), .ref (ad_p0 28), .ref (ad_p0 29), .ref (ad_p0 30), .ref (ad_p0 31), .ref (ad_p0 32), .int p0_faultNow, .int p0_hasTree, .int p0_treeSize, .ref (ad_p0 36), .ref (ad_p0 37), .ref (ad_p0 38), .ref (ad_p0 39), .ref (ad_p0 40), .ref (ad_p0 41), .ref (ad_p0 42), .int p0_weightCount, .ref (ad_p0 44), .int p0_roundCount, .ref (ad_p0 46), .int p0_setCount, .ref (ad_p0 48), .ref (ad_p0 49)])), ((ad_p0 2), .inl (cI, 16, .inl p0_colour)), ((ad_p0 10), .inl (cI, 16, .inl p0_has)), ((ad_p0 11), .inl (cI, 320, .inl p0_things))]
abbrev q_X10_thing (dC : Nat → ClassId) (dI : Nat → Nat → Nat) (cI cJ cZ : ClassId) (h_p0 : Nat) (ad_p0 : Nat → Nat) (p0_places : Int32) (p0_steps : Int32) (p0_pastFirst : Int32) (p0_past : Int32) (p0_goings : Int32) (p0_rowSize : Int32) (p0_ways : Int32) (p0_hasField : Int32) (p0_fieldSize : Int32) (p0_faultNow : Int32) (p0_hasTree : Int32) (p0_treeSize : Int32) (p0_weightCount : Int32) (p0_roundCount : Int32) (p0_setCount : Int32) (p0_colour : Nat → Int32) (p0_has : Nat → Int32) (p0_things : Nat → Int32) (post : Int32 → (Int32) → (Nat → Int32) → (Nat → Int32) → Prop) (A : Nat → Prop) : Array Value → State → Outcome → State → Prop := va_Qi (fun r (u : (Int32) × (Nat → Int32) × (Nat → Int32)) => post r (u.1) (u.2.1) (u.2.2)) (fun (u : (Int32) × (Nat → Int32) × (Nat → Int32)) t => xPost (dC, dI) A (wld_X10_thing cI cJ cZ h_p0 ad_p0 p0_places p0_steps p0_pastFirst (u.1) p0_goings p0_rowSize p0_ways p0_hasField p0_fieldSize p0_faultNow p0_hasTree p0_treeSize p0_weightCount p0_roundCount p0_setCount p0_colour (u.2.1) (u.2.2)) t) A
def w_X10_thing (p0_past : Int32) (p0_places : Int32) (p0_colour : Nat → Int32) (p0_has : Nat → Int32) (p0_things : Nat → Int32) (a1 : Int32) (a2 : Int32) (post : Int32 → (Int32) → (Nat → Int32) → (Nat → Int32) → Prop) : Prop :=
  w_X10_isPlace p0_places a1 (fun r1 =>
  (r1 = 0 →
    (post (-2000000001 : Int32) p0_past p0_has p0_things)) ∧
  (¬ r1 = 0 →
    w_X10_isIn a2 (0 : Int32) (3 : Int32) (fun r4 =>
    (¬ r4 = 0 →
      vp_in a1 16 ∧
      (¬ (p0_colour a1.toNatClampNeg) = 0 →
        vp_in a1 16 ∧
        (¬ (p0_has a1.toNatClampNeg) = (20 : Int32) →
          vp_in a1 16 ∧
          vp_in (((20 : Int32) * a1) + (p0_has a1.toNatClampNeg)) 320 ∧
          vp_in a1 16 ∧
          vp_in a1 16 ∧
          vp_in a1 16 ∧
          (post ((upd p0_has a1.toNatClampNeg ((p0_has a1.toNatClampNeg) + (1 : Int32))) a1.toNatClampNeg) (0 : Int32) (upd p0_has a1.toNatClampNeg ((p0_has a1.toNatClampNeg) + (1 : Int32))) (upd p0_things (((20 : Int32) * a1) + (p0_has a1.toNatClampNeg)).toNatClampNeg a2))) ∧
        ((p0_has a1.toNatClampNeg) = (20 : Int32) →
          (post (-2000000003 : Int32) p0_past p0_has p0_things))) ∧
      ((p0_colour a1.toNatClampNeg) = 0 →
        (post (-2000000002 : Int32) p0_past p0_has p0_things))) ∧
    (r4 = 0 →
      (post (-2000000001 : Int32) p0_past p0_has p0_things)))))
set_option maxHeartbeats 4000000 in
set_option maxRecDepth 100000 in
theorem c_X10_thing {l : Launch} {dC : Nat → ClassId} {dI : Nat → Nat → Nat} {sz : Nat} {cI cJ cZ : ClassId} {h_p0 : Nat} {ad_p0 : Nat → Nat} {p0_places : Int32} {p0_steps : Int32} {p0_pastFirst : Int32} {p0_past : Int32} {p0_goings : Int32} {p0_rowSize : Int32} {p0_ways : Int32} {p0_hasField : Int32} {p0_fieldSize : Int32} {p0_faultNow : Int32} {p0_hasTree : Int32} {p0_treeSize : Int32} {p0_weightCount : Int32} {p0_roundCount : Int32} {p0_setCount : Int32} {p0_colour : Nat → Int32} {p0_has : Nat → Int32} {p0_things : Nat → Int32} {a1 : Int32} {a2 : Int32} {post : Int32 → (Int32) → (Nat → Int32) → (Nat → Int32) → Prop} (hw : w_X10_thing p0_past p0_places p0_colour p0_has p0_things a1 a2 post) : Met l yX10_thing wsX10_thing ({ frames := 1, cells := 0, slots := 0, locals := 22 }) (va_Pc [.ref h_p0, .int a1, .int a2] (xPre (dC, dI) cI cJ cZ (wld_X10_thing cI cJ cZ h_p0 ad_p0 p0_places p0_steps p0_pastFirst p0_past p0_goings p0_rowSize p0_ways p0_hasField p0_fieldSize p0_faultNow p0_hasTree p0_treeSize p0_weightCount p0_roundCount p0_setCount p0_colour p0_has p0_things) sz)) (q_X10_thing dC dI cI cJ cZ h_p0 ad_p0 p0_places p0_steps p0_pastFirst p0_past p0_goings p0_rowSize p0_ways p0_hasField p0_fieldSize p0_faultNow p0_hasTree p0_treeSize p0_weightCount p0_roundCount p0_setCount p0_colour p0_has p0_things post (va_A (wld_X10_thing cI cJ cZ h_p0 ad_p0 p0_places p0_steps p0_pastFirst p0_past p0_goings p0_rowSize p0_ways p0_hasField p0_fieldSize p0_faultNow p0_hasTree p0_treeSize p0_weightCount p0_roundCount p0_setCount p0_colour p0_has p0_things) sz)) 0 0 (va_A (wld_X10_thing cI cJ cZ h_p0 ad_p0 p0_places p0_steps p0_pastFirst p0_past p0_goings p0_rowSize p0_ways p0_hasField p0_fieldSize p0_faultNow p0_hasTree p0_treeSize p0_weightCount p0_roundCount p0_setCount p0_colour p0_has p0_things) sz) := by
  refine x_met (cc := cX10_thing) (maxL := 3) (ret := (some .int)) (own := RX10) (Qc := fun A => (q_X10_thing dC dI cI cJ cZ h_p0 ad_p0 p0_places p0_steps p0_pastFirst p0_past p0_goings p0_rowSize p0_ways p0_hasField p0_fieldSize p0_faultNow p0_hasTree p0_treeSize p0_weightCount p0_roundCount p0_setCount p0_colour p0_has p0_things post A)) (by decide) rfl rfl (Nat.le_of_ble_eq_true rfl) ?_
  intro p e s m args below meth c A ls E0 hP hD hS hl
  obtain ⟨hx, hb, hr, hml, hown, hts, hlocks, hK, hA, n1, n2⟩ := id E0
  have iX10 : ∀ w ∈ u_ws RX10 TX10 50, w ∈ wsX10_thing := fun w h => List.mem_cons_of_mem _ (List.mem_append_right _ h)
  have hS0 := hS
  have hl : lv_has ls 3 [(0, .ref h_p0), (1, .int a1), (2, .int a2)] := hl
  unfold w_X10_thing at hw
  obtain ⟨H, hH⟩ : ∃ H, H = s.heap := ⟨_, rfl⟩
  have hS : va_S A s.heap H [] := by rw [hH]; exact hS
  have hP : va_P (dC, dI) vwCl (wld_X10_thing cI cJ cZ h_p0 ad_p0 p0_places p0_steps p0_pastFirst p0_past p0_goings p0_rowSize p0_ways p0_hasField p0_fieldSize p0_faultNow p0_hasTree p0_treeSize p0_weightCount p0_roundCount p0_setCount p0_colour p0_has p0_things) H := by rw [hH]; exact hP
  suffices hG : W p l e ({ frames := 1, cells := 0, slots := 0, locals := 22 }) s m args below meth c H [] 0 0 (MQ below (q_X10_thing dC dI cI cJ cZ h_p0 ad_p0 p0_places p0_steps p0_pastFirst p0_past p0_goings p0_rowSize p0_ways p0_hasField p0_fieldSize p0_faultNow p0_hasTree p0_treeSize p0_weightCount p0_roundCount p0_setCount p0_colour p0_has p0_things post A) args s 0 0 A) (F0 m 0 ls []) by rw [hH] at hG; exact hG
  clear hH
  refine lv_aload_n hx hb dX10_thing_0 rfl (lv_at hl 0 rfl) ?_
  refine lv_iload_n hx hb dX10_thing_1 rfl (lv_at hl 1 rfl) ?_
  obtain ⟨hPc, hDc⟩ := x_sub (wc := (wld_X10_isPlace cI cJ cZ h_p0 ad_p0 p0_places p0_steps p0_pastFirst p0_past p0_goings p0_rowSize p0_ways p0_hasField p0_fieldSize p0_faultNow p0_hasTree p0_treeSize p0_weightCount p0_roundCount p0_setCount)) hP hD [0] (n := 4) rfl rfl (by decide +kernel)
  refine x_calli (ws' := fun (u : Unit) => (wld_X10_thing cI cJ cZ h_p0 ad_p0 p0_places p0_steps p0_pastFirst p0_past p0_goings p0_rowSize p0_ways p0_hasField p0_fieldSize p0_faultNow p0_hasTree p0_treeSize p0_weightCount p0_roundCount p0_setCount p0_colour p0_has p0_things)) hP hD hS hA [0] [1, 2, 3] [3, 0, 1, 2] (n := 4) (k := 1) rfl (fun _ => rfl) rfl (by decide +kernel) (fun _ => rfl) (va_runV (As := [.int a1]) (rest := []) ⟨hx, hb, hml, hown, hts⟩ (c_X10_isPlace (l := l) (dC := dC) (dI := dI) (cI := cI) (cJ := cJ) (cZ := cZ) (sz := H.size) (h_p0 := h_p0) (ad_p0 := ad_p0) (p0_places := p0_places) (p0_steps := p0_steps) (p0_pastFirst := p0_pastFirst) (p0_past := p0_past) (p0_goings := p0_goings) (p0_rowSize := p0_rowSize) (p0_ways := p0_ways) (p0_hasField := p0_hasField) (p0_fieldSize := p0_fieldSize) (p0_faultNow := p0_faultNow) (p0_hasTree := p0_hasTree) (p0_treeSize := p0_treeSize) (p0_weightCount := p0_weightCount) (p0_roundCount := p0_roundCount) (p0_setCount := p0_setCount) hw) (cwV 1 hts gX10_thing_X10_isPlace rfl rfl rfl (by decide +kernel) ⟨Nat.le_of_ble_eq_true rfl, Nat.le_of_ble_eq_true rfl⟩) ⟨xPre_blind, va_recv hK hP (ci := 10) (q0 := 0) rfl rfl, xPre_at hK hPc hDc n1 n2⟩ rfl rfl hl.1 rfl (lv_room (Nat.le_of_ble_eq_true rfl)) dX10_thing_2 ⟨Nat.zero_le _, Nat.zero_le _⟩) (fun r1 u H locs hw hP hD hS => ?_)
  try dsimp only at hw
  have hP : va_P (dC, dI) vwCl (wld_X10_thing cI cJ cZ h_p0 ad_p0 p0_places p0_steps p0_pastFirst p0_past p0_goings p0_rowSize p0_ways p0_hasField p0_fieldSize p0_faultNow p0_hasTree p0_treeSize p0_weightCount p0_roundCount p0_setCount p0_colour p0_has p0_things) H := hP
  have hD : va_D A (wld_X10_thing cI cJ cZ h_p0 ad_p0 p0_places p0_steps p0_pastFirst p0_past p0_goings p0_rowSize p0_ways p0_hasField p0_fieldSize p0_faultNow p0_hasTree p0_treeSize p0_weightCount p0_roundCount p0_setCount p0_colour p0_has p0_things) := hD
  refine lv_if_eq (tgt := 17) hx hb dX10_thing_5 (by decide) (fun c2 => ?_) (fun c3 => ?_)
  · have hw := hw.1 c2
    refine lv_ldc (v := -2000000001) hx hb hown (hts (.constant RX10 159 (-2000000001)) (by decide +kernel)) dX10_thing_17 ?_
    exact x_iret (w1 := fun (u : (Int32) × (Nat → Int32) × (Nat → Int32)) => (wld_X10_thing cI cJ cZ h_p0 ad_p0 p0_places p0_steps p0_pastFirst (u.1) p0_goings p0_rowSize p0_ways p0_hasField p0_fieldSize p0_faultNow p0_hasTree p0_treeSize p0_weightCount p0_roundCount p0_setCount p0_colour (u.2.1) (u.2.2))) hx hb hr hlocks (p0_past, p0_has, p0_things) hw hP hD hS dX10_thing_19
  · have hw := hw.2 c3
    refine lv_iload_n hx hb dX10_thing_8 rfl (lv_at hl 2 rfl) ?_
    refine lv_iconst (v := 0) hx hb dX10_thing_9 (by decide) ?_
    refine lv_iconst (v := 3) hx hb dX10_thing_10 (by decide) ?_
    obtain ⟨hPc, hDc⟩ := x_sub (wc := (wld_X10_isIn cI cJ cZ )) hP hD [] (n := 4) rfl rfl (by decide +kernel)
    refine x_calli (ws' := fun (u : Unit) => (wld_X10_thing cI cJ cZ h_p0 ad_p0 p0_places p0_steps p0_pastFirst p0_past p0_goings p0_rowSize p0_ways p0_hasField p0_fieldSize p0_faultNow p0_hasTree p0_treeSize p0_weightCount p0_roundCount p0_setCount p0_colour p0_has p0_things)) hP hD hS hA [] [0, 1, 2, 3] [0, 1, 2, 3] (n := 4) (k := 0) rfl (fun _ => rfl) rfl (by decide +kernel) (fun _ => rfl) (va_runS (As := [.int a2, .int (0 : Int32), .int (3 : Int32)]) (rest := []) ⟨hx, hb, hml, hown, hts⟩ (c_X10_isIn (l := l) (dC := dC) (dI := dI) (cI := cI) (cJ := cJ) (cZ := cZ) (sz := H.size) hw) (va_cwS 3 hts gX10_thing_X10_isIn rfl rfl rfl (by decide +kernel) ⟨Nat.le_of_ble_eq_true rfl, Nat.le_of_ble_eq_true rfl⟩) ⟨xPre_blind, xPre_at hK hPc hDc n1 n2⟩ rfl rfl hl.1 rfl (lv_room (Nat.le_of_ble_eq_true rfl)) dX10_thing_11 ⟨Nat.zero_le _, Nat.zero_le _⟩) (fun r4 u H locs hw hP hD hS => ?_)
    try dsimp only at hw
    have hP : va_P (dC, dI) vwCl (wld_X10_thing cI cJ cZ h_p0 ad_p0 p0_places p0_steps p0_pastFirst p0_past p0_goings p0_rowSize p0_ways p0_hasField p0_fieldSize p0_faultNow p0_hasTree p0_treeSize p0_weightCount p0_roundCount p0_setCount p0_colour p0_has p0_things) H := hP
    have hD : va_D A (wld_X10_thing cI cJ cZ h_p0 ad_p0 p0_places p0_steps p0_pastFirst p0_past p0_goings p0_rowSize p0_ways p0_hasField p0_fieldSize p0_faultNow p0_hasTree p0_treeSize p0_weightCount p0_roundCount p0_setCount p0_colour p0_has p0_things) := hD
    refine lv_if_ne (tgt := 20) hx hb dX10_thing_14 (by decide) (fun c5 => ?_) (fun c6 => ?_)
    · have hw := hw.1 c5
      refine lv_aload_n hx hb dX10_thing_20 rfl (lv_at hl 0 rfl) ?_
      refine va_get (D := (dC, dI)) (ci := 10) (v := .ref (ad_p0 2)) (C := RX10) (T := TX10) (N := 50) hx hb hts iX10 hown hK hP 0 rfl rfl 2 (by decide) (hts (.fieldLink RX10 7 "NetHouseModel" "colour" "[I") (by decide +kernel)) (fun _ h9 => h9) rfl dX10_thing_21 ?_
      refine lv_iload_n hx hb dX10_thing_24 rfl (lv_at hl 1 rfl) ?_
      refine va_iald hx hb hK hP 1 0 rfl rfl hw.1 dX10_thing_25 ?_
      have hw := hw.2
      refine lv_if_ne (tgt := 32) hx hb dX10_thing_26 (by decide) (fun c7 => ?_) (fun c8 => ?_)
      · have hw := hw.1 c7
        refine lv_aload_n hx hb dX10_thing_32 rfl (lv_at hl 0 rfl) ?_
        refine va_get (D := (dC, dI)) (ci := 10) (v := .ref (ad_p0 10)) (C := RX10) (T := TX10) (N := 50) hx hb hts iX10 hown hK hP 0 rfl rfl 10 (by decide) (hts (.fieldLink RX10 34 "NetHouseModel" "has" "[I") (by decide +kernel)) (fun _ h9 => h9) rfl dX10_thing_33 ?_
        refine lv_iload_n hx hb dX10_thing_36 rfl (lv_at hl 1 rfl) ?_
        refine va_iald hx hb hK hP 2 0 rfl rfl hw.1 dX10_thing_37 ?_
        have hw := hw.2
        refine lv_bipush (v := 20) hx hb dX10_thing_38 (by decide) ?_
        refine lv_icmp_ne (tgt := 46) hx hb dX10_thing_40 (by decide) (fun c9 => ?_) (fun c10 => ?_)
        · have hw := hw.1 c9
          refine lv_aload_n hx hb dX10_thing_46 rfl (lv_at hl 0 rfl) ?_
          refine va_get (D := (dC, dI)) (ci := 10) (v := .ref (ad_p0 11)) (C := RX10) (T := TX10) (N := 50) hx hb hts iX10 hown hK hP 0 rfl rfl 11 (by decide) (hts (.fieldLink RX10 37 "NetHouseModel" "things" "[I") (by decide +kernel)) (fun _ h9 => h9) rfl dX10_thing_47 ?_
          refine lv_bipush (v := 20) hx hb dX10_thing_50 (by decide) ?_
          refine lv_iload_n hx hb dX10_thing_52 rfl (lv_at hl 1 rfl) ?_
          refine lv_imul hx hb dX10_thing_53 ?_
          refine lv_aload_n hx hb dX10_thing_54 rfl (lv_at hl 0 rfl) ?_
          refine va_get (D := (dC, dI)) (ci := 10) (v := .ref (ad_p0 10)) (C := RX10) (T := TX10) (N := 50) hx hb hts iX10 hown hK hP 0 rfl rfl 10 (by decide) (hts (.fieldLink RX10 34 "NetHouseModel" "has" "[I") (by decide +kernel)) (fun _ h9 => h9) rfl dX10_thing_55 ?_
          refine lv_iload_n hx hb dX10_thing_58 rfl (lv_at hl 1 rfl) ?_
          refine va_iald hx hb hK hP 2 0 rfl rfl hw.1 dX10_thing_59 ?_
          have hw := hw.2
          refine lv_iadd hx hb dX10_thing_60 ?_
          refine lv_iload_n hx hb dX10_thing_61 rfl (lv_at hl 2 rfl) ?_
          refine va_iast hx hb hK hP hD hS 3 0 rfl rfl hw.1 dX10_thing_62 (fun H locs hP hD hS => ?_)
          have hw := hw.2
          have hP : va_P (dC, dI) vwCl (wld_X10_thing cI cJ cZ h_p0 ad_p0 p0_places p0_steps p0_pastFirst p0_past p0_goings p0_rowSize p0_ways p0_hasField p0_fieldSize p0_faultNow p0_hasTree p0_treeSize p0_weightCount p0_roundCount p0_setCount p0_colour p0_has (upd p0_things (((20 : Int32) * a1) + (p0_has a1.toNatClampNeg)).toNatClampNeg a2)) H := hP
          have hD : va_D A (wld_X10_thing cI cJ cZ h_p0 ad_p0 p0_places p0_steps p0_pastFirst p0_past p0_goings p0_rowSize p0_ways p0_hasField p0_fieldSize p0_faultNow p0_hasTree p0_treeSize p0_weightCount p0_roundCount p0_setCount p0_colour p0_has (upd p0_things (((20 : Int32) * a1) + (p0_has a1.toNatClampNeg)).toNatClampNeg a2)) := hD
          refine lv_aload_n hx hb dX10_thing_63 rfl (lv_at hl 0 rfl) ?_
          refine va_get (D := (dC, dI)) (ci := 10) (v := .ref (ad_p0 10)) (C := RX10) (T := TX10) (N := 50) hx hb hts iX10 hown hK hP 0 rfl rfl 10 (by decide) (hts (.fieldLink RX10 34 "NetHouseModel" "has" "[I") (by decide +kernel)) (fun _ h9 => h9) rfl dX10_thing_64 ?_
          refine lv_iload_n hx hb dX10_thing_67 rfl (lv_at hl 1 rfl) ?_
          refine lv_dup2_11 hx hb dX10_thing_68 rfl rfl ?_
          refine va_iald hx hb hK hP 2 0 rfl rfl hw.1 dX10_thing_69 ?_
          have hw := hw.2
          refine lv_iconst (v := 1) hx hb dX10_thing_70 (by decide) ?_
          refine lv_iadd hx hb dX10_thing_71 ?_
          refine va_iast hx hb hK hP hD hS 2 0 rfl rfl hw.1 dX10_thing_72 (fun H locs hP hD hS => ?_)
          have hw := hw.2
          have hP : va_P (dC, dI) vwCl (wld_X10_thing cI cJ cZ h_p0 ad_p0 p0_places p0_steps p0_pastFirst p0_past p0_goings p0_rowSize p0_ways p0_hasField p0_fieldSize p0_faultNow p0_hasTree p0_treeSize p0_weightCount p0_roundCount p0_setCount p0_colour (upd p0_has a1.toNatClampNeg ((p0_has a1.toNatClampNeg) + (1 : Int32))) (upd p0_things (((20 : Int32) * a1) + (p0_has a1.toNatClampNeg)).toNatClampNeg a2)) H := hP
          have hD : va_D A (wld_X10_thing cI cJ cZ h_p0 ad_p0 p0_places p0_steps p0_pastFirst p0_past p0_goings p0_rowSize p0_ways p0_hasField p0_fieldSize p0_faultNow p0_hasTree p0_treeSize p0_weightCount p0_roundCount p0_setCount p0_colour (upd p0_has a1.toNatClampNeg ((p0_has a1.toNatClampNeg) + (1 : Int32))) (upd p0_things (((20 : Int32) * a1) + (p0_has a1.toNatClampNeg)).toNatClampNeg a2)) := hD
          refine lv_aload_n hx hb dX10_thing_73 rfl (lv_at hl 0 rfl) ?_
          refine lv_iconst (v := 0) hx hb dX10_thing_74 (by decide) ?_
          refine va_put (D := (dC, dI)) (ci := 10) (v := .int (0 : Int32)) (ty := .int) (C := RX10) (T := TX10) (N := 50) hx hb hts iX10 tyX10 tyX10_ok nmX10 hown hK hP hD hS 0 rfl rfl 16 (by decide) (hts (.fieldLink RX10 152 "NetHouseModel" "past" "I") (by decide +kernel)) (fun _ h9 => h9) rfl (by decide +kernel) rfl rfl (Nat.le_of_ble_eq_true rfl) dX10_thing_75 (fun H locs hP hD hS => ?_)
          have hP : va_P (dC, dI) vwCl (wld_X10_thing cI cJ cZ h_p0 ad_p0 p0_places p0_steps p0_pastFirst (0 : Int32) p0_goings p0_rowSize p0_ways p0_hasField p0_fieldSize p0_faultNow p0_hasTree p0_treeSize p0_weightCount p0_roundCount p0_setCount p0_colour (upd p0_has a1.toNatClampNeg ((p0_has a1.toNatClampNeg) + (1 : Int32))) (upd p0_things (((20 : Int32) * a1) + (p0_has a1.toNatClampNeg)).toNatClampNeg a2)) H := hP
          have hD : va_D A (wld_X10_thing cI cJ cZ h_p0 ad_p0 p0_places p0_steps p0_pastFirst (0 : Int32) p0_goings p0_rowSize p0_ways p0_hasField p0_fieldSize p0_faultNow p0_hasTree p0_treeSize p0_weightCount p0_roundCount p0_setCount p0_colour (upd p0_has a1.toNatClampNeg ((p0_has a1.toNatClampNeg) + (1 : Int32))) (upd p0_things (((20 : Int32) * a1) + (p0_has a1.toNatClampNeg)).toNatClampNeg a2)) := hD
          refine lv_aload_n hx hb dX10_thing_78 rfl (lv_at hl 0 rfl) ?_
          refine va_get (D := (dC, dI)) (ci := 10) (v := .ref (ad_p0 10)) (C := RX10) (T := TX10) (N := 50) hx hb hts iX10 hown hK hP 0 rfl rfl 10 (by decide) (hts (.fieldLink RX10 34 "NetHouseModel" "has" "[I") (by decide +kernel)) (fun _ h9 => h9) rfl dX10_thing_79 ?_
          refine lv_iload_n hx hb dX10_thing_82 rfl (lv_at hl 1 rfl) ?_
          refine va_iald hx hb hK hP 2 0 rfl rfl hw.1 dX10_thing_83 ?_
          have hw := hw.2
          exact x_iret (w1 := fun (u : (Int32) × (Nat → Int32) × (Nat → Int32)) => (wld_X10_thing cI cJ cZ h_p0 ad_p0 p0_places p0_steps p0_pastFirst (u.1) p0_goings p0_rowSize p0_ways p0_hasField p0_fieldSize p0_faultNow p0_hasTree p0_treeSize p0_weightCount p0_roundCount p0_setCount p0_colour (u.2.1) (u.2.2))) hx hb hr hlocks ((0 : Int32), (upd p0_has a1.toNatClampNeg ((p0_has a1.toNatClampNeg) + (1 : Int32))), (upd p0_things (((20 : Int32) * a1) + (p0_has a1.toNatClampNeg)).toNatClampNeg a2)) hw hP hD hS dX10_thing_84
        · have hw := hw.2 c10
          refine lv_ldc (v := -2000000003) hx hb hown (hts (.constant RX10 160 (-2000000003)) (by decide +kernel)) dX10_thing_43 ?_
          exact x_iret (w1 := fun (u : (Int32) × (Nat → Int32) × (Nat → Int32)) => (wld_X10_thing cI cJ cZ h_p0 ad_p0 p0_places p0_steps p0_pastFirst (u.1) p0_goings p0_rowSize p0_ways p0_hasField p0_fieldSize p0_faultNow p0_hasTree p0_treeSize p0_weightCount p0_roundCount p0_setCount p0_colour (u.2.1) (u.2.2))) hx hb hr hlocks (p0_past, p0_has, p0_things) hw hP hD hS dX10_thing_45
      · have hw := hw.2 c8
        refine lv_ldc (v := -2000000002) hx hb hown (hts (.constant RX10 171 (-2000000002)) (by decide +kernel)) dX10_thing_29 ?_
        exact x_iret (w1 := fun (u : (Int32) × (Nat → Int32) × (Nat → Int32)) => (wld_X10_thing cI cJ cZ h_p0 ad_p0 p0_places p0_steps p0_pastFirst (u.1) p0_goings p0_rowSize p0_ways p0_hasField p0_fieldSize p0_faultNow p0_hasTree p0_treeSize p0_weightCount p0_roundCount p0_setCount p0_colour (u.2.1) (u.2.2))) hx hb hr hlocks (p0_past, p0_has, p0_things) hw hP hD hS dX10_thing_31
    · have hw := hw.2 c6
      refine lv_ldc (v := -2000000001) hx hb hown (hts (.constant RX10 159 (-2000000001)) (by decide +kernel)) dX10_thing_17 ?_
      exact x_iret (w1 := fun (u : (Int32) × (Nat → Int32) × (Nat → Int32)) => (wld_X10_thing cI cJ cZ h_p0 ad_p0 p0_places p0_steps p0_pastFirst (u.1) p0_goings p0_rowSize p0_ways p0_hasField p0_fieldSize p0_faultNow p0_hasTree p0_treeSize p0_weightCount p0_roundCount p0_setCount p0_colour (u.2.1) (u.2.2))) hx hb hr hlocks (p0_past, p0_has, p0_things) hw hP hD hS dX10_thing_19
abbrev wld_X10_sweep (cI cJ cZ : ClassId) (h_p0 : Nat) (ad_p0 : Nat → Nat) (p0_places : Int32) (p0_steps : Int32) (p0_pastFirst : Int32) (p0_past : Int32) (p0_goings : Int32) (p0_rowSize : Int32) (p0_ways : Int32) (p0_hasField : Int32) (p0_fieldSize : Int32) (p0_faultNow : Int32) (p0_hasTree : Int32) (p0_treeSize : Int32) (p0_weightCount : Int32) (p0_roundCount : Int32) (p0_setCount : Int32) (p0_colour : Nat → Int32) (p0_has : Nat → Int32) : va_W := [(h_p0, .inr (10, [.int p0_places, .int p0_steps, .ref (ad_p0 2), .ref (ad_p0 3), .ref (ad_p0 4), .ref (ad_p0 5), .ref (ad_p0 6), .ref (ad_p0 7), .ref (ad_p0 8), .ref (ad_p0 9), .ref (ad_p0 10), .ref (ad_p0 11), .ref (ad_p0 12), .ref (ad_p0 13), .ref (ad_p0 14), .int p0_pastFirst, .int p0_past, .int p0_goings, .int p0_rowSize, .ref (ad_p0 19), .ref (ad_p0 20), .int p0_ways, .ref (ad_p0 22), .ref (ad_p0 23), .int p0_hasField, .int p0_fieldSize, .ref (ad_p0 26), .ref (ad_p0 27), .ref (ad_p0 28), .ref (ad_p0 29), .ref (ad_p0 30), .ref (ad_p0 31), .ref (ad_p0 32), .int p0_faultNow, .int p0_hasTree, .int p0_treeSize, .ref (ad_p0 36), .ref (ad_p0 37), .ref (ad_p0 38), .ref (ad_p0 39), .ref (ad_p0 40), .ref (ad_p0 41), .ref (ad_p0 42), .int p0_weightCount, .ref (ad_p0 44), .int p0_roundCount, .ref (ad_p0 46), .int p0_setCount, .ref (ad_p0 48), .ref (ad_p0 49)])), ((ad_p0 2), .inl (cI, 16, .inl p0_colour)), ((ad_p0 10), .inl (cI, 16, .inl p0_has))]
abbrev q_X10_sweep (dC : Nat → ClassId) (dI : Nat → Nat → Nat) (cI cJ cZ : ClassId) (h_p0 : Nat) (ad_p0 : Nat → Nat) (p0_places : Int32) (p0_steps : Int32) (p0_pastFirst : Int32) (p0_past : Int32) (p0_goings : Int32) (p0_rowSize : Int32) (p0_ways : Int32) (p0_hasField : Int32) (p0_fieldSize : Int32) (p0_faultNow : Int32) (p0_hasTree : Int32) (p0_treeSize : Int32) (p0_weightCount : Int32) (p0_roundCount : Int32) (p0_setCount : Int32) (p0_colour : Nat → Int32) (p0_has : Nat → Int32) (post : Int32 → (Int32) → (Nat → Int32) → Prop) (A : Nat → Prop) : Array Value → State → Outcome → State → Prop := va_Qi (fun r (u : (Int32) × (Nat → Int32)) => post r (u.1) (u.2)) (fun (u : (Int32) × (Nat → Int32)) t => xPost (dC, dI) A (wld_X10_sweep cI cJ cZ h_p0 ad_p0 p0_places p0_steps p0_pastFirst (u.1) p0_goings p0_rowSize p0_ways p0_hasField p0_fieldSize p0_faultNow p0_hasTree p0_treeSize p0_weightCount p0_roundCount p0_setCount p0_colour (u.2)) t) A
def w_X10_sweep (p0_past : Int32) (p0_places : Int32) (p0_colour : Nat → Int32) (p0_has : Nat → Int32) (a1 : Int32) (post : Int32 → (Int32) → (Nat → Int32) → Prop) : Prop :=
  w_X10_isPlace p0_places a1 (fun r1 =>
  (¬ r1 = 0 →
    vp_in a1 16 ∧
    (¬ (p0_colour a1.toNatClampNeg) = 0 →
      vp_in a1 16 ∧
      ∀ x6 : Int32, x6 = (p0_has a1.toNatClampNeg) →
      vp_in a1 16 ∧
      (post x6 (0 : Int32) (upd p0_has a1.toNatClampNeg (0 : Int32)))) ∧
    ((p0_colour a1.toNatClampNeg) = 0 →
      (post (-2000000002 : Int32) p0_past p0_has))) ∧
  (r1 = 0 →
    (post (-2000000001 : Int32) p0_past p0_has)))
set_option maxHeartbeats 4000000 in
set_option maxRecDepth 100000 in
theorem c_X10_sweep {l : Launch} {dC : Nat → ClassId} {dI : Nat → Nat → Nat} {sz : Nat} {cI cJ cZ : ClassId} {h_p0 : Nat} {ad_p0 : Nat → Nat} {p0_places : Int32} {p0_steps : Int32} {p0_pastFirst : Int32} {p0_past : Int32} {p0_goings : Int32} {p0_rowSize : Int32} {p0_ways : Int32} {p0_hasField : Int32} {p0_fieldSize : Int32} {p0_faultNow : Int32} {p0_hasTree : Int32} {p0_treeSize : Int32} {p0_weightCount : Int32} {p0_roundCount : Int32} {p0_setCount : Int32} {p0_colour : Nat → Int32} {p0_has : Nat → Int32} {a1 : Int32} {post : Int32 → (Int32) → (Nat → Int32) → Prop} (hw : w_X10_sweep p0_past p0_places p0_colour p0_has a1 post) : Met l yX10_sweep wsX10_sweep ({ frames := 1, cells := 0, slots := 0, locals := 21 }) (va_Pc [.ref h_p0, .int a1] (xPre (dC, dI) cI cJ cZ (wld_X10_sweep cI cJ cZ h_p0 ad_p0 p0_places p0_steps p0_pastFirst p0_past p0_goings p0_rowSize p0_ways p0_hasField p0_fieldSize p0_faultNow p0_hasTree p0_treeSize p0_weightCount p0_roundCount p0_setCount p0_colour p0_has) sz)) (q_X10_sweep dC dI cI cJ cZ h_p0 ad_p0 p0_places p0_steps p0_pastFirst p0_past p0_goings p0_rowSize p0_ways p0_hasField p0_fieldSize p0_faultNow p0_hasTree p0_treeSize p0_weightCount p0_roundCount p0_setCount p0_colour p0_has post (va_A (wld_X10_sweep cI cJ cZ h_p0 ad_p0 p0_places p0_steps p0_pastFirst p0_past p0_goings p0_rowSize p0_ways p0_hasField p0_fieldSize p0_faultNow p0_hasTree p0_treeSize p0_weightCount p0_roundCount p0_setCount p0_colour p0_has) sz)) 0 0 (va_A (wld_X10_sweep cI cJ cZ h_p0 ad_p0 p0_places p0_steps p0_pastFirst p0_past p0_goings p0_rowSize p0_ways p0_hasField p0_fieldSize p0_faultNow p0_hasTree p0_treeSize p0_weightCount p0_roundCount p0_setCount p0_colour p0_has) sz) := by
  refine x_met (cc := cX10_sweep) (maxL := 3) (ret := (some .int)) (own := RX10) (Qc := fun A => (q_X10_sweep dC dI cI cJ cZ h_p0 ad_p0 p0_places p0_steps p0_pastFirst p0_past p0_goings p0_rowSize p0_ways p0_hasField p0_fieldSize p0_faultNow p0_hasTree p0_treeSize p0_weightCount p0_roundCount p0_setCount p0_colour p0_has post A)) (by decide) rfl rfl (Nat.le_of_ble_eq_true rfl) ?_
  intro p e s m args below meth c A ls E0 hP hD hS hl
  obtain ⟨hx, hb, hr, hml, hown, hts, hlocks, hK, hA, n1, n2⟩ := id E0
  have iX10 : ∀ w ∈ u_ws RX10 TX10 50, w ∈ wsX10_sweep := fun w h => List.mem_cons_of_mem _ (List.mem_append_right _ h)
  have hS0 := hS
  have hl : lv_has ls 3 [(0, .ref h_p0), (1, .int a1)] := hl
  unfold w_X10_sweep at hw
  obtain ⟨H, hH⟩ : ∃ H, H = s.heap := ⟨_, rfl⟩
  have hS : va_S A s.heap H [] := by rw [hH]; exact hS
  have hP : va_P (dC, dI) vwCl (wld_X10_sweep cI cJ cZ h_p0 ad_p0 p0_places p0_steps p0_pastFirst p0_past p0_goings p0_rowSize p0_ways p0_hasField p0_fieldSize p0_faultNow p0_hasTree p0_treeSize p0_weightCount p0_roundCount p0_setCount p0_colour p0_has) H := by rw [hH]; exact hP
  suffices hG : W p l e ({ frames := 1, cells := 0, slots := 0, locals := 21 }) s m args below meth c H [] 0 0 (MQ below (q_X10_sweep dC dI cI cJ cZ h_p0 ad_p0 p0_places p0_steps p0_pastFirst p0_past p0_goings p0_rowSize p0_ways p0_hasField p0_fieldSize p0_faultNow p0_hasTree p0_treeSize p0_weightCount p0_roundCount p0_setCount p0_colour p0_has post A) args s 0 0 A) (F0 m 0 ls []) by rw [hH] at hG; exact hG
  clear hH
  refine lv_aload_n hx hb dX10_sweep_0 rfl (lv_at hl 0 rfl) ?_
  refine lv_iload_n hx hb dX10_sweep_1 rfl (lv_at hl 1 rfl) ?_
  obtain ⟨hPc, hDc⟩ := x_sub (wc := (wld_X10_isPlace cI cJ cZ h_p0 ad_p0 p0_places p0_steps p0_pastFirst p0_past p0_goings p0_rowSize p0_ways p0_hasField p0_fieldSize p0_faultNow p0_hasTree p0_treeSize p0_weightCount p0_roundCount p0_setCount)) hP hD [0] (n := 3) rfl rfl (by decide +kernel)
  refine x_calli (ws' := fun (u : Unit) => (wld_X10_sweep cI cJ cZ h_p0 ad_p0 p0_places p0_steps p0_pastFirst p0_past p0_goings p0_rowSize p0_ways p0_hasField p0_fieldSize p0_faultNow p0_hasTree p0_treeSize p0_weightCount p0_roundCount p0_setCount p0_colour p0_has)) hP hD hS hA [0] [1, 2] [2, 0, 1] (n := 3) (k := 1) rfl (fun _ => rfl) rfl (by decide +kernel) (fun _ => rfl) (va_runV (As := [.int a1]) (rest := []) ⟨hx, hb, hml, hown, hts⟩ (c_X10_isPlace (l := l) (dC := dC) (dI := dI) (cI := cI) (cJ := cJ) (cZ := cZ) (sz := H.size) (h_p0 := h_p0) (ad_p0 := ad_p0) (p0_places := p0_places) (p0_steps := p0_steps) (p0_pastFirst := p0_pastFirst) (p0_past := p0_past) (p0_goings := p0_goings) (p0_rowSize := p0_rowSize) (p0_ways := p0_ways) (p0_hasField := p0_hasField) (p0_fieldSize := p0_fieldSize) (p0_faultNow := p0_faultNow) (p0_hasTree := p0_hasTree) (p0_treeSize := p0_treeSize) (p0_weightCount := p0_weightCount) (p0_roundCount := p0_roundCount) (p0_setCount := p0_setCount) hw) (cwV 1 hts gX10_sweep_X10_isPlace rfl rfl rfl (by decide +kernel) ⟨Nat.le_of_ble_eq_true rfl, Nat.le_of_ble_eq_true rfl⟩) ⟨xPre_blind, va_recv hK hP (ci := 10) (q0 := 0) rfl rfl, xPre_at hK hPc hDc n1 n2⟩ rfl rfl hl.1 rfl (lv_room (Nat.le_of_ble_eq_true rfl)) dX10_sweep_2 ⟨Nat.zero_le _, Nat.zero_le _⟩) (fun r1 u H locs hw hP hD hS => ?_)
  try dsimp only at hw
  have hP : va_P (dC, dI) vwCl (wld_X10_sweep cI cJ cZ h_p0 ad_p0 p0_places p0_steps p0_pastFirst p0_past p0_goings p0_rowSize p0_ways p0_hasField p0_fieldSize p0_faultNow p0_hasTree p0_treeSize p0_weightCount p0_roundCount p0_setCount p0_colour p0_has) H := hP
  have hD : va_D A (wld_X10_sweep cI cJ cZ h_p0 ad_p0 p0_places p0_steps p0_pastFirst p0_past p0_goings p0_rowSize p0_ways p0_hasField p0_fieldSize p0_faultNow p0_hasTree p0_treeSize p0_weightCount p0_roundCount p0_setCount p0_colour p0_has) := hD
  refine lv_if_ne (tgt := 11) hx hb dX10_sweep_5 (by decide) (fun c2 => ?_) (fun c3 => ?_)
  · have hw := hw.1 c2
    refine lv_aload_n hx hb dX10_sweep_11 rfl (lv_at hl 0 rfl) ?_
    refine va_get (D := (dC, dI)) (ci := 10) (v := .ref (ad_p0 2)) (C := RX10) (T := TX10) (N := 50) hx hb hts iX10 hown hK hP 0 rfl rfl 2 (by decide) (hts (.fieldLink RX10 7 "NetHouseModel" "colour" "[I") (by decide +kernel)) (fun _ h9 => h9) rfl dX10_sweep_12 ?_
    refine lv_iload_n hx hb dX10_sweep_15 rfl (lv_at hl 1 rfl) ?_
    refine va_iald hx hb hK hP 1 0 rfl rfl hw.1 dX10_sweep_16 ?_
    have hw := hw.2
    refine lv_if_ne (tgt := 23) hx hb dX10_sweep_17 (by decide) (fun c4 => ?_) (fun c5 => ?_)
    · have hw := hw.1 c4
      refine lv_aload_n hx hb dX10_sweep_23 rfl (lv_at hl 0 rfl) ?_
      refine va_get (D := (dC, dI)) (ci := 10) (v := .ref (ad_p0 10)) (C := RX10) (T := TX10) (N := 50) hx hb hts iX10 hown hK hP 0 rfl rfl 10 (by decide) (hts (.fieldLink RX10 34 "NetHouseModel" "has" "[I") (by decide +kernel)) (fun _ h9 => h9) rfl dX10_sweep_24 ?_
      refine lv_iload_n hx hb dX10_sweep_27 rfl (lv_at hl 1 rfl) ?_
      refine va_iald hx hb hK hP 2 0 rfl rfl hw.1 dX10_sweep_28 ?_
      have hw := hw.2
      refine lv_topi (fun x6 ex6 => ?_)
      have hw := hw x6 ex6
      refine lv_istore_n (lv' := [(2, .int x6), (0, .ref h_p0), (1, .int a1)]) hx hb dX10_sweep_29 rfl hl (by decide) rfl (fun ls hl => ?_)
      refine lv_aload_n hx hb dX10_sweep_30 rfl (lv_at hl 1 rfl) ?_
      refine va_get (D := (dC, dI)) (ci := 10) (v := .ref (ad_p0 10)) (C := RX10) (T := TX10) (N := 50) hx hb hts iX10 hown hK hP 0 rfl rfl 10 (by decide) (hts (.fieldLink RX10 34 "NetHouseModel" "has" "[I") (by decide +kernel)) (fun _ h9 => h9) rfl dX10_sweep_31 ?_
      refine lv_iload_n hx hb dX10_sweep_34 rfl (lv_at hl 2 rfl) ?_
      refine lv_iconst (v := 0) hx hb dX10_sweep_35 (by decide) ?_
      refine va_iast hx hb hK hP hD hS 2 0 rfl rfl hw.1 dX10_sweep_36 (fun H locs hP hD hS => ?_)
      have hw := hw.2
      have hP : va_P (dC, dI) vwCl (wld_X10_sweep cI cJ cZ h_p0 ad_p0 p0_places p0_steps p0_pastFirst p0_past p0_goings p0_rowSize p0_ways p0_hasField p0_fieldSize p0_faultNow p0_hasTree p0_treeSize p0_weightCount p0_roundCount p0_setCount p0_colour (upd p0_has a1.toNatClampNeg (0 : Int32))) H := hP
      have hD : va_D A (wld_X10_sweep cI cJ cZ h_p0 ad_p0 p0_places p0_steps p0_pastFirst p0_past p0_goings p0_rowSize p0_ways p0_hasField p0_fieldSize p0_faultNow p0_hasTree p0_treeSize p0_weightCount p0_roundCount p0_setCount p0_colour (upd p0_has a1.toNatClampNeg (0 : Int32))) := hD
      refine lv_aload_n hx hb dX10_sweep_37 rfl (lv_at hl 1 rfl) ?_
      refine lv_iconst (v := 0) hx hb dX10_sweep_38 (by decide) ?_
      refine va_put (D := (dC, dI)) (ci := 10) (v := .int (0 : Int32)) (ty := .int) (C := RX10) (T := TX10) (N := 50) hx hb hts iX10 tyX10 tyX10_ok nmX10 hown hK hP hD hS 0 rfl rfl 16 (by decide) (hts (.fieldLink RX10 152 "NetHouseModel" "past" "I") (by decide +kernel)) (fun _ h9 => h9) rfl (by decide +kernel) rfl rfl (Nat.le_of_ble_eq_true rfl) dX10_sweep_39 (fun H locs hP hD hS => ?_)
      have hP : va_P (dC, dI) vwCl (wld_X10_sweep cI cJ cZ h_p0 ad_p0 p0_places p0_steps p0_pastFirst (0 : Int32) p0_goings p0_rowSize p0_ways p0_hasField p0_fieldSize p0_faultNow p0_hasTree p0_treeSize p0_weightCount p0_roundCount p0_setCount p0_colour (upd p0_has a1.toNatClampNeg (0 : Int32))) H := hP
      have hD : va_D A (wld_X10_sweep cI cJ cZ h_p0 ad_p0 p0_places p0_steps p0_pastFirst (0 : Int32) p0_goings p0_rowSize p0_ways p0_hasField p0_fieldSize p0_faultNow p0_hasTree p0_treeSize p0_weightCount p0_roundCount p0_setCount p0_colour (upd p0_has a1.toNatClampNeg (0 : Int32))) := hD
      refine lv_iload_n hx hb dX10_sweep_42 rfl (lv_at hl 0 rfl) ?_
      exact x_iret (w1 := fun (u : (Int32) × (Nat → Int32)) => (wld_X10_sweep cI cJ cZ h_p0 ad_p0 p0_places p0_steps p0_pastFirst (u.1) p0_goings p0_rowSize p0_ways p0_hasField p0_fieldSize p0_faultNow p0_hasTree p0_treeSize p0_weightCount p0_roundCount p0_setCount p0_colour (u.2))) hx hb hr hlocks ((0 : Int32), (upd p0_has a1.toNatClampNeg (0 : Int32))) hw hP hD hS dX10_sweep_43
    · have hw := hw.2 c5
      refine lv_ldc (v := -2000000002) hx hb hown (hts (.constant RX10 171 (-2000000002)) (by decide +kernel)) dX10_sweep_20 ?_
      exact x_iret (w1 := fun (u : (Int32) × (Nat → Int32)) => (wld_X10_sweep cI cJ cZ h_p0 ad_p0 p0_places p0_steps p0_pastFirst (u.1) p0_goings p0_rowSize p0_ways p0_hasField p0_fieldSize p0_faultNow p0_hasTree p0_treeSize p0_weightCount p0_roundCount p0_setCount p0_colour (u.2))) hx hb hr hlocks (p0_past, p0_has) hw hP hD hS dX10_sweep_22
  · have hw := hw.2 c3
    refine lv_ldc (v := -2000000001) hx hb hown (hts (.constant RX10 159 (-2000000001)) (by decide +kernel)) dX10_sweep_8 ?_
    exact x_iret (w1 := fun (u : (Int32) × (Nat → Int32)) => (wld_X10_sweep cI cJ cZ h_p0 ad_p0 p0_places p0_steps p0_pastFirst (u.1) p0_goings p0_rowSize p0_ways p0_hasField p0_fieldSize p0_faultNow p0_hasTree p0_treeSize p0_weightCount p0_roundCount p0_setCount p0_colour (u.2))) hx hb hr hlocks (p0_past, p0_has) hw hP hD hS dX10_sweep_10
abbrev wld_X10_many (cI cJ cZ : ClassId) (h_p0 : Nat) (ad_p0 : Nat → Nat) (p0_places : Int32) (p0_steps : Int32) (p0_pastFirst : Int32) (p0_past : Int32) (p0_goings : Int32) (p0_rowSize : Int32) (p0_ways : Int32) (p0_hasField : Int32) (p0_fieldSize : Int32) (p0_faultNow : Int32) (p0_hasTree : Int32) (p0_treeSize : Int32) (p0_weightCount : Int32) (p0_roundCount : Int32) (p0_setCount : Int32) (p0_has : Nat → Int32) : va_W := [(h_p0, .inr (10, [.int p0_places, .int p0_steps, .ref (ad_p0 2), .ref (ad_p0 3), .ref (ad_p0 4), .ref (ad_p0 5), .ref (ad_p0 6), .ref (ad_p0 7), .ref (ad_p0 8), .ref (ad_p0 9), .ref (ad_p0 10), .ref (ad_p0 11), .ref (ad_p0 12), .ref (ad_p0 13), .ref (ad_p0 14), .int p0_pastFirst, .int p0_past, .int p0_goings, .int p0_rowSize, .ref (ad_p0 19), .ref (ad_p0 20), .int p0_ways, .ref (ad_p0 22), .ref (ad_p0 23), .int p0_hasField, .int p0_fieldSize, .ref (ad_p0 26), .ref (ad_p0 27), .ref (ad_p0 28), .ref (ad_p0 29), .ref (ad_p0 30), .ref (ad_p0 31), .ref (ad_p0 32), .int p0_faultNow, .int p0_hasTree, .int p0_treeSize, .ref (ad_p0 36), .ref (ad_p0 37), .ref (ad_p0 38), .ref (ad_p0 39), .ref (ad_p0 40), .ref (ad_p0 41), .ref (ad_p0 42), .int p0_weightCount, .ref (ad_p0 44), .int p0_roundCount, .ref (ad_p0 46), .int p0_setCount, .ref (ad_p0 48), .ref (ad_p0 49)])), ((ad_p0 10), .inl (cI, 16, .inl p0_has))]
abbrev q_X10_many (dC : Nat → ClassId) (dI : Nat → Nat → Nat) (cI cJ cZ : ClassId) (h_p0 : Nat) (ad_p0 : Nat → Nat) (p0_places : Int32) (p0_steps : Int32) (p0_pastFirst : Int32) (p0_past : Int32) (p0_goings : Int32) (p0_rowSize : Int32) (p0_ways : Int32) (p0_hasField : Int32) (p0_fieldSize : Int32) (p0_faultNow : Int32) (p0_hasTree : Int32) (p0_treeSize : Int32) (p0_weightCount : Int32) (p0_roundCount : Int32) (p0_setCount : Int32) (p0_has : Nat → Int32) (post : Int32 → Prop) (A : Nat → Prop) : Array Value → State → Outcome → State → Prop := va_Qi (fun r (u : Unit) => post r ) (fun (u : Unit) t => xPost (dC, dI) A (wld_X10_many cI cJ cZ h_p0 ad_p0 p0_places p0_steps p0_pastFirst p0_past p0_goings p0_rowSize p0_ways p0_hasField p0_fieldSize p0_faultNow p0_hasTree p0_treeSize p0_weightCount p0_roundCount p0_setCount p0_has) t) A
def w_X10_many (p0_places : Int32) (p0_has : Nat → Int32) (a1 : Int32) (post : Int32 → Prop) : Prop :=
  w_X10_isPlace p0_places a1 (fun r1 =>
  (r1 = 0 →
    (post (-2000000001 : Int32))) ∧
  (¬ r1 = 0 →
    vp_in a1 16 ∧
    (post (p0_has a1.toNatClampNeg))))
set_option maxHeartbeats 4000000 in
set_option maxRecDepth 100000 in
theorem c_X10_many {l : Launch} {dC : Nat → ClassId} {dI : Nat → Nat → Nat} {sz : Nat} {cI cJ cZ : ClassId} {h_p0 : Nat} {ad_p0 : Nat → Nat} {p0_places : Int32} {p0_steps : Int32} {p0_pastFirst : Int32} {p0_past : Int32} {p0_goings : Int32} {p0_rowSize : Int32} {p0_ways : Int32} {p0_hasField : Int32} {p0_fieldSize : Int32} {p0_faultNow : Int32} {p0_hasTree : Int32} {p0_treeSize : Int32} {p0_weightCount : Int32} {p0_roundCount : Int32} {p0_setCount : Int32} {p0_has : Nat → Int32} {a1 : Int32} {post : Int32 → Prop} (hw : w_X10_many p0_places p0_has a1 post) : Met l yX10_many wsX10_many ({ frames := 1, cells := 0, slots := 0, locals := 21 }) (va_Pc [.ref h_p0, .int a1] (xPre (dC, dI) cI cJ cZ (wld_X10_many cI cJ cZ h_p0 ad_p0 p0_places p0_steps p0_pastFirst p0_past p0_goings p0_rowSize p0_ways p0_hasField p0_fieldSize p0_faultNow p0_hasTree p0_treeSize p0_weightCount p0_roundCount p0_setCount p0_has) sz)) (q_X10_many dC dI cI cJ cZ h_p0 ad_p0 p0_places p0_steps p0_pastFirst p0_past p0_goings p0_rowSize p0_ways p0_hasField p0_fieldSize p0_faultNow p0_hasTree p0_treeSize p0_weightCount p0_roundCount p0_setCount p0_has post (va_A (wld_X10_many cI cJ cZ h_p0 ad_p0 p0_places p0_steps p0_pastFirst p0_past p0_goings p0_rowSize p0_ways p0_hasField p0_fieldSize p0_faultNow p0_hasTree p0_treeSize p0_weightCount p0_roundCount p0_setCount p0_has) sz)) 0 0 (va_A (wld_X10_many cI cJ cZ h_p0 ad_p0 p0_places p0_steps p0_pastFirst p0_past p0_goings p0_rowSize p0_ways p0_hasField p0_fieldSize p0_faultNow p0_hasTree p0_treeSize p0_weightCount p0_roundCount p0_setCount p0_has) sz) := by
  refine x_met (cc := cX10_many) (maxL := 2) (ret := (some .int)) (own := RX10) (Qc := fun A => (q_X10_many dC dI cI cJ cZ h_p0 ad_p0 p0_places p0_steps p0_pastFirst p0_past p0_goings p0_rowSize p0_ways p0_hasField p0_fieldSize p0_faultNow p0_hasTree p0_treeSize p0_weightCount p0_roundCount p0_setCount p0_has post A)) (by decide) rfl rfl (Nat.le_of_ble_eq_true rfl) ?_
  intro p e s m args below meth c A ls E0 hP hD hS hl
  obtain ⟨hx, hb, hr, hml, hown, hts, hlocks, hK, hA, n1, n2⟩ := id E0
  have iX10 : ∀ w ∈ u_ws RX10 TX10 50, w ∈ wsX10_many := fun w h => List.mem_cons_of_mem _ (List.mem_append_right _ h)
  have hS0 := hS
  have hl : lv_has ls 2 [(0, .ref h_p0), (1, .int a1)] := hl
  unfold w_X10_many at hw
  obtain ⟨H, hH⟩ : ∃ H, H = s.heap := ⟨_, rfl⟩
  have hS : va_S A s.heap H [] := by rw [hH]; exact hS
  have hP : va_P (dC, dI) vwCl (wld_X10_many cI cJ cZ h_p0 ad_p0 p0_places p0_steps p0_pastFirst p0_past p0_goings p0_rowSize p0_ways p0_hasField p0_fieldSize p0_faultNow p0_hasTree p0_treeSize p0_weightCount p0_roundCount p0_setCount p0_has) H := by rw [hH]; exact hP
  suffices hG : W p l e ({ frames := 1, cells := 0, slots := 0, locals := 21 }) s m args below meth c H [] 0 0 (MQ below (q_X10_many dC dI cI cJ cZ h_p0 ad_p0 p0_places p0_steps p0_pastFirst p0_past p0_goings p0_rowSize p0_ways p0_hasField p0_fieldSize p0_faultNow p0_hasTree p0_treeSize p0_weightCount p0_roundCount p0_setCount p0_has post A) args s 0 0 A) (F0 m 0 ls []) by rw [hH] at hG; exact hG
  clear hH
  refine lv_aload_n hx hb dX10_many_0 rfl (lv_at hl 0 rfl) ?_
  refine lv_iload_n hx hb dX10_many_1 rfl (lv_at hl 1 rfl) ?_
  obtain ⟨hPc, hDc⟩ := x_sub (wc := (wld_X10_isPlace cI cJ cZ h_p0 ad_p0 p0_places p0_steps p0_pastFirst p0_past p0_goings p0_rowSize p0_ways p0_hasField p0_fieldSize p0_faultNow p0_hasTree p0_treeSize p0_weightCount p0_roundCount p0_setCount)) hP hD [0] (n := 2) rfl rfl (by decide +kernel)
  refine x_calli (ws' := fun (u : Unit) => (wld_X10_many cI cJ cZ h_p0 ad_p0 p0_places p0_steps p0_pastFirst p0_past p0_goings p0_rowSize p0_ways p0_hasField p0_fieldSize p0_faultNow p0_hasTree p0_treeSize p0_weightCount p0_roundCount p0_setCount p0_has)) hP hD hS hA [0] [1] [1, 0] (n := 2) (k := 1) rfl (fun _ => rfl) rfl (by decide +kernel) (fun _ => rfl) (va_runV (As := [.int a1]) (rest := []) ⟨hx, hb, hml, hown, hts⟩ (c_X10_isPlace (l := l) (dC := dC) (dI := dI) (cI := cI) (cJ := cJ) (cZ := cZ) (sz := H.size) (h_p0 := h_p0) (ad_p0 := ad_p0) (p0_places := p0_places) (p0_steps := p0_steps) (p0_pastFirst := p0_pastFirst) (p0_past := p0_past) (p0_goings := p0_goings) (p0_rowSize := p0_rowSize) (p0_ways := p0_ways) (p0_hasField := p0_hasField) (p0_fieldSize := p0_fieldSize) (p0_faultNow := p0_faultNow) (p0_hasTree := p0_hasTree) (p0_treeSize := p0_treeSize) (p0_weightCount := p0_weightCount) (p0_roundCount := p0_roundCount) (p0_setCount := p0_setCount) hw) (cwV 1 hts gX10_many_X10_isPlace rfl rfl rfl (by decide +kernel) ⟨Nat.le_of_ble_eq_true rfl, Nat.le_of_ble_eq_true rfl⟩) ⟨xPre_blind, va_recv hK hP (ci := 10) (q0 := 0) rfl rfl, xPre_at hK hPc hDc n1 n2⟩ rfl rfl hl.1 rfl (lv_room (Nat.le_of_ble_eq_true rfl)) dX10_many_2 ⟨Nat.zero_le _, Nat.zero_le _⟩) (fun r1 u H locs hw hP hD hS => ?_)
  try dsimp only at hw
  have hP : va_P (dC, dI) vwCl (wld_X10_many cI cJ cZ h_p0 ad_p0 p0_places p0_steps p0_pastFirst p0_past p0_goings p0_rowSize p0_ways p0_hasField p0_fieldSize p0_faultNow p0_hasTree p0_treeSize p0_weightCount p0_roundCount p0_setCount p0_has) H := hP
  have hD : va_D A (wld_X10_many cI cJ cZ h_p0 ad_p0 p0_places p0_steps p0_pastFirst p0_past p0_goings p0_rowSize p0_ways p0_hasField p0_fieldSize p0_faultNow p0_hasTree p0_treeSize p0_weightCount p0_roundCount p0_setCount p0_has) := hD
  refine lv_if_eq (tgt := 17) hx hb dX10_many_5 (by decide) (fun c2 => ?_) (fun c3 => ?_)
  · have hw := hw.1 c2
    refine lv_ldc (v := -2000000001) hx hb hown (hts (.constant RX10 159 (-2000000001)) (by decide +kernel)) dX10_many_17 ?_
    exact x_iret (w1 := fun (u : Unit) => (wld_X10_many cI cJ cZ h_p0 ad_p0 p0_places p0_steps p0_pastFirst p0_past p0_goings p0_rowSize p0_ways p0_hasField p0_fieldSize p0_faultNow p0_hasTree p0_treeSize p0_weightCount p0_roundCount p0_setCount p0_has)) hx hb hr hlocks () hw hP hD hS dX10_many_19
  · have hw := hw.2 c3
    refine lv_aload_n hx hb dX10_many_8 rfl (lv_at hl 0 rfl) ?_
    refine va_get (D := (dC, dI)) (ci := 10) (v := .ref (ad_p0 10)) (C := RX10) (T := TX10) (N := 50) hx hb hts iX10 hown hK hP 0 rfl rfl 10 (by decide) (hts (.fieldLink RX10 34 "NetHouseModel" "has" "[I") (by decide +kernel)) (fun _ h9 => h9) rfl dX10_many_9 ?_
    refine lv_iload_n hx hb dX10_many_12 rfl (lv_at hl 1 rfl) ?_
    refine va_iald hx hb hK hP 1 0 rfl rfl hw.1 dX10_many_13 ?_
    have hw := hw.2
    refine lv_goto (tgt := 19) hx hb dX10_many_14 (by decide) ?_
    exact x_iret (w1 := fun (u : Unit) => (wld_X10_many cI cJ cZ h_p0 ad_p0 p0_places p0_steps p0_pastFirst p0_past p0_goings p0_rowSize p0_ways p0_hasField p0_fieldSize p0_faultNow p0_hasTree p0_treeSize p0_weightCount p0_roundCount p0_setCount p0_has)) hx hb hr hlocks () hw hP hD hS dX10_many_19
abbrev wld_X10_kind (cI cJ cZ : ClassId) (h_p0 : Nat) (ad_p0 : Nat → Nat) (p0_places : Int32) (p0_steps : Int32) (p0_pastFirst : Int32) (p0_past : Int32) (p0_goings : Int32) (p0_rowSize : Int32) (p0_ways : Int32) (p0_hasField : Int32) (p0_fieldSize : Int32) (p0_faultNow : Int32) (p0_hasTree : Int32) (p0_treeSize : Int32) (p0_weightCount : Int32) (p0_roundCount : Int32) (p0_setCount : Int32) (p0_colour : Nat → Int32) (p0_has : Nat → Int32) (p0_things : Nat → Int32) : va_W := [(h_p0, .inr (10, [.int p0_places, .int p0_steps, .ref (ad_p0 2), .ref (ad_p0 3), .ref (ad_p0 4), .ref (ad_p0 5), .ref (ad_p0 6), .ref (ad_p0 7), .ref (ad_p0 8), .ref (ad_p0 9), .ref (ad_p0 10), .ref (ad_p0 11), .ref (ad_p0 12), .ref (ad_p0 13), .ref (ad_p0 14), .int p0_pastFirst, .int p0_past, .int p0_goings, .int p0_rowSize, .ref (ad_p0 19), .ref (ad_p0 20), .int p0_ways, .ref (ad_p0 22), .ref (ad_p0 23), .int p0_hasField, .int p0_fieldSize, .ref (ad_p0 26), .ref (ad_p0 27), .ref (ad_p0 28), .ref (ad_p0 29), .ref (ad_p0 30), .ref (ad_p0 31), .ref (ad_p0 32), .int p0_faultNow, .int p0_hasTree, .int p0_treeSize, .ref (ad_p0 36), .ref (ad_p0 37), .ref (ad_p0 38), .ref (ad_p0 39), .ref (ad_p0 40), .ref (ad_p0 41), .ref (ad_p0 42), .int p0_weightCount, .ref (ad_p0 44), .int p0_roundCount, .ref (ad_p0 46), .int p0_setCount, .ref (ad_p0 48), .ref (ad_p0 49)])), ((ad_p0 2), .inl (cI, 16, .inl p0_colour)), ((ad_p0 10), .inl (cI, 16, .inl p0_has)), ((ad_p0 11), .inl (cI, 320, .inl p0_things))]
abbrev q_X10_kind (dC : Nat → ClassId) (dI : Nat → Nat → Nat) (cI cJ cZ : ClassId) (h_p0 : Nat) (ad_p0 : Nat → Nat) (p0_places : Int32) (p0_steps : Int32) (p0_pastFirst : Int32) (p0_past : Int32) (p0_goings : Int32) (p0_rowSize : Int32) (p0_ways : Int32) (p0_hasField : Int32) (p0_fieldSize : Int32) (p0_faultNow : Int32) (p0_hasTree : Int32) (p0_treeSize : Int32) (p0_weightCount : Int32) (p0_roundCount : Int32) (p0_setCount : Int32) (p0_colour : Nat → Int32) (p0_has : Nat → Int32) (p0_things : Nat → Int32) (post : Int32 → Prop) (A : Nat → Prop) : Array Value → State → Outcome → State → Prop := va_Qi (fun r (u : Unit) => post r ) (fun (u : Unit) t => xPost (dC, dI) A (wld_X10_kind cI cJ cZ h_p0 ad_p0 p0_places p0_steps p0_pastFirst p0_past p0_goings p0_rowSize p0_ways p0_hasField p0_fieldSize p0_faultNow p0_hasTree p0_treeSize p0_weightCount p0_roundCount p0_setCount p0_colour p0_has p0_things) t) A
def w_X10_kind (p0_places : Int32) (p0_colour : Nat → Int32) (p0_has : Nat → Int32) (p0_things : Nat → Int32) (a1 : Int32) (a2 : Int32) (post : Int32 → Prop) : Prop :=
  w_X10_isPlace p0_places a1 (fun r1 =>
  (¬ r1 = 0 →
    vp_in a1 16 ∧
    (¬ (p0_colour a1.toNatClampNeg) = 0 →
      vp_in a1 16 ∧
      w_X10_isIn a2 (0 : Int32) ((p0_has a1.toNatClampNeg) - (1 : Int32)) (fun r6 =>
      (r6 = 0 →
        (post (-2000000001 : Int32))) ∧
      (¬ r6 = 0 →
        vp_in (((20 : Int32) * a1) + a2) 320 ∧
        (post (p0_things (((20 : Int32) * a1) + a2).toNatClampNeg))))) ∧
    ((p0_colour a1.toNatClampNeg) = 0 →
      (post (-2000000002 : Int32)))) ∧
  (r1 = 0 →
    (post (-2000000001 : Int32))))
set_option maxHeartbeats 4000000 in
set_option maxRecDepth 100000 in
theorem c_X10_kind {l : Launch} {dC : Nat → ClassId} {dI : Nat → Nat → Nat} {sz : Nat} {cI cJ cZ : ClassId} {h_p0 : Nat} {ad_p0 : Nat → Nat} {p0_places : Int32} {p0_steps : Int32} {p0_pastFirst : Int32} {p0_past : Int32} {p0_goings : Int32} {p0_rowSize : Int32} {p0_ways : Int32} {p0_hasField : Int32} {p0_fieldSize : Int32} {p0_faultNow : Int32} {p0_hasTree : Int32} {p0_treeSize : Int32} {p0_weightCount : Int32} {p0_roundCount : Int32} {p0_setCount : Int32} {p0_colour : Nat → Int32} {p0_has : Nat → Int32} {p0_things : Nat → Int32} {a1 : Int32} {a2 : Int32} {post : Int32 → Prop} (hw : w_X10_kind p0_places p0_colour p0_has p0_things a1 a2 post) : Met l yX10_kind wsX10_kind ({ frames := 1, cells := 0, slots := 0, locals := 22 }) (va_Pc [.ref h_p0, .int a1, .int a2] (xPre (dC, dI) cI cJ cZ (wld_X10_kind cI cJ cZ h_p0 ad_p0 p0_places p0_steps p0_pastFirst p0_past p0_goings p0_rowSize p0_ways p0_hasField p0_fieldSize p0_faultNow p0_hasTree p0_treeSize p0_weightCount p0_roundCount p0_setCount p0_colour p0_has p0_things) sz)) (q_X10_kind dC dI cI cJ cZ h_p0 ad_p0 p0_places p0_steps p0_pastFirst p0_past p0_goings p0_rowSize p0_ways p0_hasField p0_fieldSize p0_faultNow p0_hasTree p0_treeSize p0_weightCount p0_roundCount p0_setCount p0_colour p0_has p0_things post (va_A (wld_X10_kind cI cJ cZ h_p0 ad_p0 p0_places p0_steps p0_pastFirst p0_past p0_goings p0_rowSize p0_ways p0_hasField p0_fieldSize p0_faultNow p0_hasTree p0_treeSize p0_weightCount p0_roundCount p0_setCount p0_colour p0_has p0_things) sz)) 0 0 (va_A (wld_X10_kind cI cJ cZ h_p0 ad_p0 p0_places p0_steps p0_pastFirst p0_past p0_goings p0_rowSize p0_ways p0_hasField p0_fieldSize p0_faultNow p0_hasTree p0_treeSize p0_weightCount p0_roundCount p0_setCount p0_colour p0_has p0_things) sz) := by
  refine x_met (cc := cX10_kind) (maxL := 3) (ret := (some .int)) (own := RX10) (Qc := fun A => (q_X10_kind dC dI cI cJ cZ h_p0 ad_p0 p0_places p0_steps p0_pastFirst p0_past p0_goings p0_rowSize p0_ways p0_hasField p0_fieldSize p0_faultNow p0_hasTree p0_treeSize p0_weightCount p0_roundCount p0_setCount p0_colour p0_has p0_things post A)) (by decide) rfl rfl (Nat.le_of_ble_eq_true rfl) ?_
  intro p e s m args below meth c A ls E0 hP hD hS hl
  obtain ⟨hx, hb, hr, hml, hown, hts, hlocks, hK, hA, n1, n2⟩ := id E0
  have iX10 : ∀ w ∈ u_ws RX10 TX10 50, w ∈ wsX10_kind := fun w h => List.mem_cons_of_mem _ (List.mem_append_right _ h)
  have hS0 := hS
  have hl : lv_has ls 3 [(0, .ref h_p0), (1, .int a1), (2, .int a2)] := hl
  unfold w_X10_kind at hw
  obtain ⟨H, hH⟩ : ∃ H, H = s.heap := ⟨_, rfl⟩
  have hS : va_S A s.heap H [] := by rw [hH]; exact hS
  have hP : va_P (dC, dI) vwCl (wld_X10_kind cI cJ cZ h_p0 ad_p0 p0_places p0_steps p0_pastFirst p0_past p0_goings p0_rowSize p0_ways p0_hasField p0_fieldSize p0_faultNow p0_hasTree p0_treeSize p0_weightCount p0_roundCount p0_setCount p0_colour p0_has p0_things) H := by rw [hH]; exact hP
  suffices hG : W p l e ({ frames := 1, cells := 0, slots := 0, locals := 22 }) s m args below meth c H [] 0 0 (MQ below (q_X10_kind dC dI cI cJ cZ h_p0 ad_p0 p0_places p0_steps p0_pastFirst p0_past p0_goings p0_rowSize p0_ways p0_hasField p0_fieldSize p0_faultNow p0_hasTree p0_treeSize p0_weightCount p0_roundCount p0_setCount p0_colour p0_has p0_things post A) args s 0 0 A) (F0 m 0 ls []) by rw [hH] at hG; exact hG
  clear hH
  refine lv_aload_n hx hb dX10_kind_0 rfl (lv_at hl 0 rfl) ?_
  refine lv_iload_n hx hb dX10_kind_1 rfl (lv_at hl 1 rfl) ?_
  obtain ⟨hPc, hDc⟩ := x_sub (wc := (wld_X10_isPlace cI cJ cZ h_p0 ad_p0 p0_places p0_steps p0_pastFirst p0_past p0_goings p0_rowSize p0_ways p0_hasField p0_fieldSize p0_faultNow p0_hasTree p0_treeSize p0_weightCount p0_roundCount p0_setCount)) hP hD [0] (n := 4) rfl rfl (by decide +kernel)
  refine x_calli (ws' := fun (u : Unit) => (wld_X10_kind cI cJ cZ h_p0 ad_p0 p0_places p0_steps p0_pastFirst p0_past p0_goings p0_rowSize p0_ways p0_hasField p0_fieldSize p0_faultNow p0_hasTree p0_treeSize p0_weightCount p0_roundCount p0_setCount p0_colour p0_has p0_things)) hP hD hS hA [0] [1, 2, 3] [3, 0, 1, 2] (n := 4) (k := 1) rfl (fun _ => rfl) rfl (by decide +kernel) (fun _ => rfl) (va_runV (As := [.int a1]) (rest := []) ⟨hx, hb, hml, hown, hts⟩ (c_X10_isPlace (l := l) (dC := dC) (dI := dI) (cI := cI) (cJ := cJ) (cZ := cZ) (sz := H.size) (h_p0 := h_p0) (ad_p0 := ad_p0) (p0_places := p0_places) (p0_steps := p0_steps) (p0_pastFirst := p0_pastFirst) (p0_past := p0_past) (p0_goings := p0_goings) (p0_rowSize := p0_rowSize) (p0_ways := p0_ways) (p0_hasField := p0_hasField) (p0_fieldSize := p0_fieldSize) (p0_faultNow := p0_faultNow) (p0_hasTree := p0_hasTree) (p0_treeSize := p0_treeSize) (p0_weightCount := p0_weightCount) (p0_roundCount := p0_roundCount) (p0_setCount := p0_setCount) hw) (cwV 1 hts gX10_kind_X10_isPlace rfl rfl rfl (by decide +kernel) ⟨Nat.le_of_ble_eq_true rfl, Nat.le_of_ble_eq_true rfl⟩) ⟨xPre_blind, va_recv hK hP (ci := 10) (q0 := 0) rfl rfl, xPre_at hK hPc hDc n1 n2⟩ rfl rfl hl.1 rfl (lv_room (Nat.le_of_ble_eq_true rfl)) dX10_kind_2 ⟨Nat.zero_le _, Nat.zero_le _⟩) (fun r1 u H locs hw hP hD hS => ?_)
  try dsimp only at hw
  have hP : va_P (dC, dI) vwCl (wld_X10_kind cI cJ cZ h_p0 ad_p0 p0_places p0_steps p0_pastFirst p0_past p0_goings p0_rowSize p0_ways p0_hasField p0_fieldSize p0_faultNow p0_hasTree p0_treeSize p0_weightCount p0_roundCount p0_setCount p0_colour p0_has p0_things) H := hP
  have hD : va_D A (wld_X10_kind cI cJ cZ h_p0 ad_p0 p0_places p0_steps p0_pastFirst p0_past p0_goings p0_rowSize p0_ways p0_hasField p0_fieldSize p0_faultNow p0_hasTree p0_treeSize p0_weightCount p0_roundCount p0_setCount p0_colour p0_has p0_things) := hD
  refine lv_if_ne (tgt := 11) hx hb dX10_kind_5 (by decide) (fun c2 => ?_) (fun c3 => ?_)
  · have hw := hw.1 c2
    refine lv_aload_n hx hb dX10_kind_11 rfl (lv_at hl 0 rfl) ?_
    refine va_get (D := (dC, dI)) (ci := 10) (v := .ref (ad_p0 2)) (C := RX10) (T := TX10) (N := 50) hx hb hts iX10 hown hK hP 0 rfl rfl 2 (by decide) (hts (.fieldLink RX10 7 "NetHouseModel" "colour" "[I") (by decide +kernel)) (fun _ h9 => h9) rfl dX10_kind_12 ?_
    refine lv_iload_n hx hb dX10_kind_15 rfl (lv_at hl 1 rfl) ?_
    refine va_iald hx hb hK hP 1 0 rfl rfl hw.1 dX10_kind_16 ?_
    have hw := hw.2
    refine lv_if_ne (tgt := 23) hx hb dX10_kind_17 (by decide) (fun c4 => ?_) (fun c5 => ?_)
    · have hw := hw.1 c4
      refine lv_iload_n hx hb dX10_kind_23 rfl (lv_at hl 2 rfl) ?_
      refine lv_iconst (v := 0) hx hb dX10_kind_24 (by decide) ?_
      refine lv_aload_n hx hb dX10_kind_25 rfl (lv_at hl 0 rfl) ?_
      refine va_get (D := (dC, dI)) (ci := 10) (v := .ref (ad_p0 10)) (C := RX10) (T := TX10) (N := 50) hx hb hts iX10 hown hK hP 0 rfl rfl 10 (by decide) (hts (.fieldLink RX10 34 "NetHouseModel" "has" "[I") (by decide +kernel)) (fun _ h9 => h9) rfl dX10_kind_26 ?_
      refine lv_iload_n hx hb dX10_kind_29 rfl (lv_at hl 1 rfl) ?_
      refine va_iald hx hb hK hP 2 0 rfl rfl hw.1 dX10_kind_30 ?_
      have hw := hw.2
      refine lv_iconst (v := 1) hx hb dX10_kind_31 (by decide) ?_
      refine lv_isub hx hb dX10_kind_32 ?_
      obtain ⟨hPc, hDc⟩ := x_sub (wc := (wld_X10_isIn cI cJ cZ )) hP hD [] (n := 4) rfl rfl (by decide +kernel)
      refine x_calli (ws' := fun (u : Unit) => (wld_X10_kind cI cJ cZ h_p0 ad_p0 p0_places p0_steps p0_pastFirst p0_past p0_goings p0_rowSize p0_ways p0_hasField p0_fieldSize p0_faultNow p0_hasTree p0_treeSize p0_weightCount p0_roundCount p0_setCount p0_colour p0_has p0_things)) hP hD hS hA [] [0, 1, 2, 3] [0, 1, 2, 3] (n := 4) (k := 0) rfl (fun _ => rfl) rfl (by decide +kernel) (fun _ => rfl) (va_runS (As := [.int a2, .int (0 : Int32), .int ((p0_has a1.toNatClampNeg) - (1 : Int32))]) (rest := []) ⟨hx, hb, hml, hown, hts⟩ (c_X10_isIn (l := l) (dC := dC) (dI := dI) (cI := cI) (cJ := cJ) (cZ := cZ) (sz := H.size) hw) (va_cwS 3 hts gX10_kind_X10_isIn rfl rfl rfl (by decide +kernel) ⟨Nat.le_of_ble_eq_true rfl, Nat.le_of_ble_eq_true rfl⟩) ⟨xPre_blind, xPre_at hK hPc hDc n1 n2⟩ rfl rfl hl.1 rfl (lv_room (Nat.le_of_ble_eq_true rfl)) dX10_kind_33 ⟨Nat.zero_le _, Nat.zero_le _⟩) (fun r6 u H locs hw hP hD hS => ?_)
      try dsimp only at hw
      have hP : va_P (dC, dI) vwCl (wld_X10_kind cI cJ cZ h_p0 ad_p0 p0_places p0_steps p0_pastFirst p0_past p0_goings p0_rowSize p0_ways p0_hasField p0_fieldSize p0_faultNow p0_hasTree p0_treeSize p0_weightCount p0_roundCount p0_setCount p0_colour p0_has p0_things) H := hP
      have hD : va_D A (wld_X10_kind cI cJ cZ h_p0 ad_p0 p0_places p0_steps p0_pastFirst p0_past p0_goings p0_rowSize p0_ways p0_hasField p0_fieldSize p0_faultNow p0_hasTree p0_treeSize p0_weightCount p0_roundCount p0_setCount p0_colour p0_has p0_things) := hD
      refine lv_if_eq (tgt := 53) hx hb dX10_kind_36 (by decide) (fun c7 => ?_) (fun c8 => ?_)
      · have hw := hw.1 c7
        refine lv_ldc (v := -2000000001) hx hb hown (hts (.constant RX10 159 (-2000000001)) (by decide +kernel)) dX10_kind_53 ?_
        exact x_iret (w1 := fun (u : Unit) => (wld_X10_kind cI cJ cZ h_p0 ad_p0 p0_places p0_steps p0_pastFirst p0_past p0_goings p0_rowSize p0_ways p0_hasField p0_fieldSize p0_faultNow p0_hasTree p0_treeSize p0_weightCount p0_roundCount p0_setCount p0_colour p0_has p0_things)) hx hb hr hlocks () hw hP hD hS dX10_kind_55
      · have hw := hw.2 c8
        refine lv_aload_n hx hb dX10_kind_39 rfl (lv_at hl 0 rfl) ?_
        refine va_get (D := (dC, dI)) (ci := 10) (v := .ref (ad_p0 11)) (C := RX10) (T := TX10) (N := 50) hx hb hts iX10 hown hK hP 0 rfl rfl 11 (by decide) (hts (.fieldLink RX10 37 "NetHouseModel" "things" "[I") (by decide +kernel)) (fun _ h9 => h9) rfl dX10_kind_40 ?_
        refine lv_bipush (v := 20) hx hb dX10_kind_43 (by decide) ?_
        refine lv_iload_n hx hb dX10_kind_45 rfl (lv_at hl 1 rfl) ?_
        refine lv_imul hx hb dX10_kind_46 ?_
        refine lv_iload_n hx hb dX10_kind_47 rfl (lv_at hl 2 rfl) ?_
        refine lv_iadd hx hb dX10_kind_48 ?_
        refine va_iald hx hb hK hP 3 0 rfl rfl hw.1 dX10_kind_49 ?_
        have hw := hw.2
        refine lv_goto (tgt := 55) hx hb dX10_kind_50 (by decide) ?_
        exact x_iret (w1 := fun (u : Unit) => (wld_X10_kind cI cJ cZ h_p0 ad_p0 p0_places p0_steps p0_pastFirst p0_past p0_goings p0_rowSize p0_ways p0_hasField p0_fieldSize p0_faultNow p0_hasTree p0_treeSize p0_weightCount p0_roundCount p0_setCount p0_colour p0_has p0_things)) hx hb hr hlocks () hw hP hD hS dX10_kind_55
    · have hw := hw.2 c5
      refine lv_ldc (v := -2000000002) hx hb hown (hts (.constant RX10 171 (-2000000002)) (by decide +kernel)) dX10_kind_20 ?_
      exact x_iret (w1 := fun (u : Unit) => (wld_X10_kind cI cJ cZ h_p0 ad_p0 p0_places p0_steps p0_pastFirst p0_past p0_goings p0_rowSize p0_ways p0_hasField p0_fieldSize p0_faultNow p0_hasTree p0_treeSize p0_weightCount p0_roundCount p0_setCount p0_colour p0_has p0_things)) hx hb hr hlocks () hw hP hD hS dX10_kind_22
  · have hw := hw.2 c3
    refine lv_ldc (v := -2000000001) hx hb hown (hts (.constant RX10 159 (-2000000001)) (by decide +kernel)) dX10_kind_8 ?_
    exact x_iret (w1 := fun (u : Unit) => (wld_X10_kind cI cJ cZ h_p0 ad_p0 p0_places p0_steps p0_pastFirst p0_past p0_goings p0_rowSize p0_ways p0_hasField p0_fieldSize p0_faultNow p0_hasTree p0_treeSize p0_weightCount p0_roundCount p0_setCount p0_colour p0_has p0_things)) hx hb hr hlocks () hw hP hD hS dX10_kind_10
abbrev wld_X10_share (cI cJ cZ : ClassId) (h_p0 : Nat) (ad_p0 : Nat → Nat) (p0_places : Int32) (p0_steps : Int32) (p0_pastFirst : Int32) (p0_past : Int32) (p0_goings : Int32) (p0_rowSize : Int32) (p0_ways : Int32) (p0_hasField : Int32) (p0_fieldSize : Int32) (p0_faultNow : Int32) (p0_hasTree : Int32) (p0_treeSize : Int32) (p0_weightCount : Int32) (p0_roundCount : Int32) (p0_setCount : Int32) (p0_has : Nat → Int32) : va_W := [(h_p0, .inr (10, [.int p0_places, .int p0_steps, .ref (ad_p0 2), .ref (ad_p0 3), .ref (ad_p0 4), .ref (ad_p0 5), .ref (ad_p0 6), .ref (ad_p0 7), .ref (ad_p0 8), .ref (ad_p0 9), .ref (ad_p0 10), .ref (ad_p0 11), .ref (ad_p0 12), .ref (ad_p0 13), .ref (ad_p0 14), .int p0_pastFirst, .int p0_past, .int p0_goings, .int p0_rowSize, .ref (ad_p0 19), .ref (ad_p0 20), .int p0_ways, .ref (ad_p0 22), .ref (ad_p0 23), .int p0_hasField, .int p0_fieldSize, .ref (ad_p0 26), .ref (ad_p0 27), .ref (ad_p0 28), .ref (ad_p0 29), .ref (ad_p0 30), .ref (ad_p0 31), .ref (ad_p0 32), .int p0_faultNow, .int p0_hasTree, .int p0_treeSize, .ref (ad_p0 36), .ref (ad_p0 37), .ref (ad_p0 38), .ref (ad_p0 39), .ref (ad_p0 40), .ref (ad_p0 41), .ref (ad_p0 42), .int p0_weightCount, .ref (ad_p0 44), .int p0_roundCount, .ref (ad_p0 46), .int p0_setCount, .ref (ad_p0 48), .ref (ad_p0 49)])), ((ad_p0 10), .inl (cI, 16, .inl p0_has))]
abbrev q_X10_share (dC : Nat → ClassId) (dI : Nat → Nat → Nat) (cI cJ cZ : ClassId) (h_p0 : Nat) (ad_p0 : Nat → Nat) (p0_places : Int32) (p0_steps : Int32) (p0_pastFirst : Int32) (p0_past : Int32) (p0_goings : Int32) (p0_rowSize : Int32) (p0_ways : Int32) (p0_hasField : Int32) (p0_fieldSize : Int32) (p0_faultNow : Int32) (p0_hasTree : Int32) (p0_treeSize : Int32) (p0_weightCount : Int32) (p0_roundCount : Int32) (p0_setCount : Int32) (p0_has : Nat → Int32) (post : Int32 → Prop) (A : Nat → Prop) : Array Value → State → Outcome → State → Prop := va_Qi (fun r (u : Unit) => post r ) (fun (u : Unit) t => xPost (dC, dI) A (wld_X10_share cI cJ cZ h_p0 ad_p0 p0_places p0_steps p0_pastFirst p0_past p0_goings p0_rowSize p0_ways p0_hasField p0_fieldSize p0_faultNow p0_hasTree p0_treeSize p0_weightCount p0_roundCount p0_setCount p0_has) t) A
def w_X10_share_L16b (v1 : Int32) (p0_places : Int32) (p0_has : Nat → Int32) (post : Int32 → Prop) (K : (Int64) → (Int32) → Prop) (rec : (Int64) → (Int32) → Prop) (v2 : Int64) (v4 : Int32) : Prop :=
    (p0_places ≤ v4 →
      K v2 v4) ∧
    (¬ p0_places ≤ v4 →
      vp_in v4 16 ∧
      ∀ x6 : Int64, x6 = (v2 + (p0_has v4.toNatClampNeg).toInt64) →
      ∀ x7 : Int32, x7 = v4 + (1 : Int32) →
      rec x6 x7)
def w_X10_share_L16 (v1 : Int32) (p0_places : Int32) (p0_has : Nat → Int32) (post : Int32 → Prop) (K : (Int64) → (Int32) → Prop) : Nat → (Int64) → (Int32) → Prop
  | 0, _, _ => False
  | n + 1, v2, v4 => w_X10_share_L16b v1 p0_places p0_has post K (w_X10_share_L16 v1 p0_places p0_has post K n) v2 v4
def w_X10_share (p0_places : Int32) (p0_has : Nat → Int32) (a1 : Int32) (post : Int32 → Prop) : Prop :=
  w_X10_isPlace p0_places a1 (fun r1 =>
  (¬ r1 = 0 →
    ∃ n : Nat, w_X10_share_L16 a1 p0_places p0_has post (fun v9 v10 =>
        (¬ (lg_cmp v9 (0 : Int64)) = 0 →
          vp_in a1 16 ∧
          ¬ v9 = 0 ∧
          (post (((1000 : Int64) * (p0_has a1.toNatClampNeg).toInt64) / v9).toInt32)) ∧
        ((lg_cmp v9 (0 : Int64)) = 0 →
          (post (-2000000002 : Int32)))) n (0 : Int64) (0 : Int32)) ∧
  (r1 = 0 →
    (post (-2000000001 : Int32))))
set_option maxHeartbeats 4000000 in
set_option maxRecDepth 100000 in
theorem c_X10_share_L16 {p : Program} {l : Launch} {e : Env} {s : State} {m : MethodId} {args : Array Value} {below : List Frame} {meth : Method} {c : Code} {dC : Nat → ClassId} {dI : Nat → Nat → Nat} {A : Nat → Prop} {cI cJ cZ : ClassId} {h_p0 : Nat} {ad_p0 : Nat → Nat} {p0_places : Int32} {p0_steps : Int32} {p0_pastFirst : Int32} {p0_past : Int32} {p0_goings : Int32} {p0_rowSize : Int32} {p0_ways : Int32} {p0_hasField : Int32} {p0_fieldSize : Int32} {p0_faultNow : Int32} {p0_hasTree : Int32} {p0_treeSize : Int32} {p0_weightCount : Int32} {p0_roundCount : Int32} {p0_setCount : Int32} {p0_has : Nat → Int32} {v1 : Int32}  {post : Int32 → Prop} {K : (Int64) → (Int32) → Prop} (E0 : xEnv p s m args meth c cX10_share (some .int) 5 RX10 wsX10_share (dC, dI) cI cJ cZ A) (hk : ∀ (v2 : Int64) (v4 : Int32) (H : Heap) (locs : List Loc) (ls : Array Slot), K v2 v4 → va_P (dC, dI) vwCl (wld_X10_share cI cJ cZ h_p0 ad_p0 p0_places p0_steps p0_pastFirst p0_past p0_goings p0_rowSize p0_ways p0_hasField p0_fieldSize p0_faultNow p0_hasTree p0_treeSize p0_weightCount p0_roundCount p0_setCount p0_has) H → va_D A (wld_X10_share cI cJ cZ h_p0 ad_p0 p0_places p0_steps p0_pastFirst p0_past p0_goings p0_rowSize p0_ways p0_hasField p0_fieldSize p0_faultNow p0_hasTree p0_treeSize p0_weightCount p0_roundCount p0_setCount p0_has) → va_S A s.heap H locs → lv_has ls 5 [(0, .ref h_p0), (1, .int v1), (2, .long v2)] → W p l e ({ frames := 1, cells := 0, slots := 0, locals := 21 }) s m args below meth c H locs 0 0 (MQ below (q_X10_share dC dI cI cJ cZ h_p0 ad_p0 p0_places p0_steps p0_pastFirst p0_past p0_goings p0_rowSize p0_ways p0_hasField p0_fieldSize p0_faultNow p0_hasTree p0_treeSize p0_weightCount p0_roundCount p0_setCount p0_has post A) args s 0 0 A) (F0 m 42 ls [])) : ∀ (n : Nat) (v2 : Int64) (v4 : Int32), w_X10_share_L16 v1 p0_places p0_has post K n v2 v4 → ∀ (H : Heap) (locs : List Loc) (ls : Array Slot), va_P (dC, dI) vwCl (wld_X10_share cI cJ cZ h_p0 ad_p0 p0_places p0_steps p0_pastFirst p0_past p0_goings p0_rowSize p0_ways p0_hasField p0_fieldSize p0_faultNow p0_hasTree p0_treeSize p0_weightCount p0_roundCount p0_setCount p0_has) H → va_D A (wld_X10_share cI cJ cZ h_p0 ad_p0 p0_places p0_steps p0_pastFirst p0_past p0_goings p0_rowSize p0_ways p0_hasField p0_fieldSize p0_faultNow p0_hasTree p0_treeSize p0_weightCount p0_roundCount p0_setCount p0_has) → va_S A s.heap H locs → lv_has ls 5 [(0, .ref h_p0), (1, .int v1), (2, .long v2), (4, .int v4)] → W p l e ({ frames := 1, cells := 0, slots := 0, locals := 21 }) s m args below meth c H locs 0 0 (MQ below (q_X10_share dC dI cI cJ cZ h_p0 ad_p0 p0_places p0_steps p0_pastFirst p0_past p0_goings p0_rowSize p0_ways p0_hasField p0_fieldSize p0_faultNow p0_hasTree p0_treeSize p0_weightCount p0_roundCount p0_setCount p0_has post A) args s 0 0 A) (F0 m 16 ls []) := by
  obtain ⟨hx, hb, hr, hml, hown, hts, hlocks, hK, hA, n1, n2⟩ := id E0
  have iX10 : ∀ w ∈ u_ws RX10 TX10 50, w ∈ wsX10_share := fun w h => List.mem_cons_of_mem _ (List.mem_append_right _ h)
  intro n
  induction n with
  | zero => intro v2 v4 hw; exact hw.elim
  | succ n ih =>
    intro v2 v4 hw H locs ls hP hD hS hl
    have hw : w_X10_share_L16b v1 p0_places p0_has post K (w_X10_share_L16 v1 p0_places p0_has post K n) v2 v4 := hw
    unfold w_X10_share_L16b at hw
    refine lv_iload hx hb dX10_share_16 (lv_at hl 3 rfl) ?_
    refine lv_aload_n hx hb dX10_share_18 rfl (lv_at hl 0 rfl) ?_
    refine va_get (D := (dC, dI)) (ci := 10) (v := .int p0_places) (C := RX10) (T := TX10) (N := 50) hx hb hts iX10 hown hK hP 0 rfl rfl 0 (by decide) (hts (.fieldLink RX10 127 "NetHouseModel" "places" "I") (by decide +kernel)) (fun _ h9 => h9) rfl dX10_share_19 ?_
    refine lv_icmp_ge (tgt := 42) hx hb dX10_share_22 (by decide) (fun c4 => ?_) (fun c5 => ?_)
    · have hw := hw.1 c4
      exact hk _ _ _ _ _ hw hP hD hS (lv_sub hl [0, 1, 2] rfl)
    · have hw := hw.2 c5
      refine lv_lload_n hx hb dX10_share_25 rfl (lv_at hl 2 rfl) ?_
      refine lv_aload_n hx hb dX10_share_26 rfl (lv_at hl 0 rfl) ?_
      refine va_get (D := (dC, dI)) (ci := 10) (v := .ref (ad_p0 10)) (C := RX10) (T := TX10) (N := 50) hx hb hts iX10 hown hK hP 0 rfl rfl 10 (by decide) (hts (.fieldLink RX10 34 "NetHouseModel" "has" "[I") (by decide +kernel)) (fun _ h9 => h9) rfl dX10_share_27 ?_
      refine lv_iload hx hb dX10_share_30 (lv_at hl 3 rfl) ?_
      refine va_iald hx hb hK hP 1 0 rfl rfl hw.1 dX10_share_32 ?_
      have hw := hw.2
      refine lv_i2l hx hb dX10_share_33 rfl ?_
      refine lv_ladd hx hb dX10_share_34 ?_
      refine lv_topl (fun x6 ex6 => ?_)
      have hw := hw x6 ex6
      refine lv_lstore_n (lv' := [(2, .long x6), (0, .ref h_p0), (1, .int v1), (4, .int v4)]) hx hb dX10_share_35 rfl hl (by decide) rfl (fun ls hl => ?_)
      obtain ⟨x7, ex7⟩ : ∃ y : Int32, y = v4 + (1 : Int32) := ⟨_, rfl⟩
      have hw := hw x7 ex7
      refine lv_iinc (v := x7) (lv' := [(4, .int x7), (2, .long x6), (0, .ref h_p0), (1, .int v1)]) hx hb dX10_share_36 hl (k := 3) rfl (by rw [ex7]; rfl) (by decide) rfl (fun ls hl => ?_)
      refine lv_goto (tgt := 16) hx hb dX10_share_39 (by decide) ?_
      exact ih _ _ hw _ _ _ hP hD hS (lv_sub hl [2, 3, 1, 0] rfl)
set_option maxHeartbeats 4000000 in
set_option maxRecDepth 100000 in
theorem c_X10_share {l : Launch} {dC : Nat → ClassId} {dI : Nat → Nat → Nat} {sz : Nat} {cI cJ cZ : ClassId} {h_p0 : Nat} {ad_p0 : Nat → Nat} {p0_places : Int32} {p0_steps : Int32} {p0_pastFirst : Int32} {p0_past : Int32} {p0_goings : Int32} {p0_rowSize : Int32} {p0_ways : Int32} {p0_hasField : Int32} {p0_fieldSize : Int32} {p0_faultNow : Int32} {p0_hasTree : Int32} {p0_treeSize : Int32} {p0_weightCount : Int32} {p0_roundCount : Int32} {p0_setCount : Int32} {p0_has : Nat → Int32} {a1 : Int32} {post : Int32 → Prop} (hw : w_X10_share p0_places p0_has a1 post) : Met l yX10_share wsX10_share ({ frames := 1, cells := 0, slots := 0, locals := 21 }) (va_Pc [.ref h_p0, .int a1] (xPre (dC, dI) cI cJ cZ (wld_X10_share cI cJ cZ h_p0 ad_p0 p0_places p0_steps p0_pastFirst p0_past p0_goings p0_rowSize p0_ways p0_hasField p0_fieldSize p0_faultNow p0_hasTree p0_treeSize p0_weightCount p0_roundCount p0_setCount p0_has) sz)) (q_X10_share dC dI cI cJ cZ h_p0 ad_p0 p0_places p0_steps p0_pastFirst p0_past p0_goings p0_rowSize p0_ways p0_hasField p0_fieldSize p0_faultNow p0_hasTree p0_treeSize p0_weightCount p0_roundCount p0_setCount p0_has post (va_A (wld_X10_share cI cJ cZ h_p0 ad_p0 p0_places p0_steps p0_pastFirst p0_past p0_goings p0_rowSize p0_ways p0_hasField p0_fieldSize p0_faultNow p0_hasTree p0_treeSize p0_weightCount p0_roundCount p0_setCount p0_has) sz)) 0 0 (va_A (wld_X10_share cI cJ cZ h_p0 ad_p0 p0_places p0_steps p0_pastFirst p0_past p0_goings p0_rowSize p0_ways p0_hasField p0_fieldSize p0_faultNow p0_hasTree p0_treeSize p0_weightCount p0_roundCount p0_setCount p0_has) sz) := by
  refine x_met (cc := cX10_share) (maxL := 5) (ret := (some .int)) (own := RX10) (Qc := fun A => (q_X10_share dC dI cI cJ cZ h_p0 ad_p0 p0_places p0_steps p0_pastFirst p0_past p0_goings p0_rowSize p0_ways p0_hasField p0_fieldSize p0_faultNow p0_hasTree p0_treeSize p0_weightCount p0_roundCount p0_setCount p0_has post A)) (by decide) rfl rfl (Nat.le_of_ble_eq_true rfl) ?_
  intro p e s m args below meth c A ls E0 hP hD hS hl
  obtain ⟨hx, hb, hr, hml, hown, hts, hlocks, hK, hA, n1, n2⟩ := id E0
  have iX10 : ∀ w ∈ u_ws RX10 TX10 50, w ∈ wsX10_share := fun w h => List.mem_cons_of_mem _ (List.mem_append_right _ h)
  have hS0 := hS
  have hl : lv_has ls 5 [(0, .ref h_p0), (1, .int a1)] := hl
  unfold w_X10_share at hw
  obtain ⟨H, hH⟩ : ∃ H, H = s.heap := ⟨_, rfl⟩
  have hS : va_S A s.heap H [] := by rw [hH]; exact hS
  have hP : va_P (dC, dI) vwCl (wld_X10_share cI cJ cZ h_p0 ad_p0 p0_places p0_steps p0_pastFirst p0_past p0_goings p0_rowSize p0_ways p0_hasField p0_fieldSize p0_faultNow p0_hasTree p0_treeSize p0_weightCount p0_roundCount p0_setCount p0_has) H := by rw [hH]; exact hP
  suffices hG : W p l e ({ frames := 1, cells := 0, slots := 0, locals := 21 }) s m args below meth c H [] 0 0 (MQ below (q_X10_share dC dI cI cJ cZ h_p0 ad_p0 p0_places p0_steps p0_pastFirst p0_past p0_goings p0_rowSize p0_ways p0_hasField p0_fieldSize p0_faultNow p0_hasTree p0_treeSize p0_weightCount p0_roundCount p0_setCount p0_has post A) args s 0 0 A) (F0 m 0 ls []) by rw [hH] at hG; exact hG
  clear hH
  refine lv_aload_n hx hb dX10_share_0 rfl (lv_at hl 0 rfl) ?_
  refine lv_iload_n hx hb dX10_share_1 rfl (lv_at hl 1 rfl) ?_
  obtain ⟨hPc, hDc⟩ := x_sub (wc := (wld_X10_isPlace cI cJ cZ h_p0 ad_p0 p0_places p0_steps p0_pastFirst p0_past p0_goings p0_rowSize p0_ways p0_hasField p0_fieldSize p0_faultNow p0_hasTree p0_treeSize p0_weightCount p0_roundCount p0_setCount)) hP hD [0] (n := 2) rfl rfl (by decide +kernel)
  refine x_calli (ws' := fun (u : Unit) => (wld_X10_share cI cJ cZ h_p0 ad_p0 p0_places p0_steps p0_pastFirst p0_past p0_goings p0_rowSize p0_ways p0_hasField p0_fieldSize p0_faultNow p0_hasTree p0_treeSize p0_weightCount p0_roundCount p0_setCount p0_has)) hP hD hS hA [0] [1] [1, 0] (n := 2) (k := 1) rfl (fun _ => rfl) rfl (by decide +kernel) (fun _ => rfl) (va_runV (As := [.int a1]) (rest := []) ⟨hx, hb, hml, hown, hts⟩ (c_X10_isPlace (l := l) (dC := dC) (dI := dI) (cI := cI) (cJ := cJ) (cZ := cZ) (sz := H.size) (h_p0 := h_p0) (ad_p0 := ad_p0) (p0_places := p0_places) (p0_steps := p0_steps) (p0_pastFirst := p0_pastFirst) (p0_past := p0_past) (p0_goings := p0_goings) (p0_rowSize := p0_rowSize) (p0_ways := p0_ways) (p0_hasField := p0_hasField) (p0_fieldSize := p0_fieldSize) (p0_faultNow := p0_faultNow) (p0_hasTree := p0_hasTree) (p0_treeSize := p0_treeSize) (p0_weightCount := p0_weightCount) (p0_roundCount := p0_roundCount) (p0_setCount := p0_setCount) hw) (cwV 1 hts gX10_share_X10_isPlace rfl rfl rfl (by decide +kernel) ⟨Nat.le_of_ble_eq_true rfl, Nat.le_of_ble_eq_true rfl⟩) ⟨xPre_blind, va_recv hK hP (ci := 10) (q0 := 0) rfl rfl, xPre_at hK hPc hDc n1 n2⟩ rfl rfl hl.1 rfl (lv_room (Nat.le_of_ble_eq_true rfl)) dX10_share_2 ⟨Nat.zero_le _, Nat.zero_le _⟩) (fun r1 u H locs hw hP hD hS => ?_)
  try dsimp only at hw
  have hP : va_P (dC, dI) vwCl (wld_X10_share cI cJ cZ h_p0 ad_p0 p0_places p0_steps p0_pastFirst p0_past p0_goings p0_rowSize p0_ways p0_hasField p0_fieldSize p0_faultNow p0_hasTree p0_treeSize p0_weightCount p0_roundCount p0_setCount p0_has) H := hP
  have hD : va_D A (wld_X10_share cI cJ cZ h_p0 ad_p0 p0_places p0_steps p0_pastFirst p0_past p0_goings p0_rowSize p0_ways p0_hasField p0_fieldSize p0_faultNow p0_hasTree p0_treeSize p0_weightCount p0_roundCount p0_setCount p0_has) := hD
  refine lv_if_ne (tgt := 11) hx hb dX10_share_5 (by decide) (fun c2 => ?_) (fun c3 => ?_)
  · have hw := hw.1 c2
    refine lv_lconst (v := 0) hx hb dX10_share_11 (by decide) ?_
    refine lv_lstore_n (lv' := [(2, .long (0 : Int64)), (0, .ref h_p0), (1, .int a1)]) hx hb dX10_share_12 rfl hl (by decide) rfl (fun ls hl => ?_)
    refine lv_iconst (v := 0) hx hb dX10_share_13 (by decide) ?_
    refine lv_istore (lv' := [(4, .int (0 : Int32)), (2, .long (0 : Int64)), (0, .ref h_p0), (1, .int a1)]) hx hb dX10_share_14 hl (by decide) rfl (fun ls hl => ?_)
    obtain ⟨n8, hw⟩ := hw
    refine c_X10_share_L16 (l := l)  E0 ?_ n8 _ _ hw _ _ _ hP hD hS (lv_sub hl [2, 3, 1, 0] rfl)
    · intro v9 v10 H locs ls hw hP hD hS hl
      have hP : va_P (dC, dI) vwCl (wld_X10_share cI cJ cZ h_p0 ad_p0 p0_places p0_steps p0_pastFirst p0_past p0_goings p0_rowSize p0_ways p0_hasField p0_fieldSize p0_faultNow p0_hasTree p0_treeSize p0_weightCount p0_roundCount p0_setCount p0_has) H := hP
      have hD : va_D A (wld_X10_share cI cJ cZ h_p0 ad_p0 p0_places p0_steps p0_pastFirst p0_past p0_goings p0_rowSize p0_ways p0_hasField p0_fieldSize p0_faultNow p0_hasTree p0_treeSize p0_weightCount p0_roundCount p0_setCount p0_has) := hD
      refine lv_lload_n hx hb dX10_share_42 rfl (lv_at hl 2 rfl) ?_
      refine lv_lconst (v := 0) hx hb dX10_share_43 (by decide) ?_
      refine W.lcmp hx hb dX10_share_44 ?_
      refine lv_if_ne (tgt := 53) hx hb dX10_share_45 (by decide) (fun c11 => ?_) (fun c12 => ?_)
      · have hw := hw.1 c11
        refine lv_ldc2 (v := 1000) hx hb hown (hts (.constantLong RX10 173 (1000)) (by decide +kernel)) dX10_share_53 ?_
        refine lv_aload_n hx hb dX10_share_56 rfl (lv_at hl 0 rfl) ?_
        refine va_get (D := (dC, dI)) (ci := 10) (v := .ref (ad_p0 10)) (C := RX10) (T := TX10) (N := 50) hx hb hts iX10 hown hK hP 0 rfl rfl 10 (by decide) (hts (.fieldLink RX10 34 "NetHouseModel" "has" "[I") (by decide +kernel)) (fun _ h9 => h9) rfl dX10_share_57 ?_
        refine lv_iload_n hx hb dX10_share_60 rfl (lv_at hl 1 rfl) ?_
        refine va_iald hx hb hK hP 1 0 rfl rfl hw.1 dX10_share_61 ?_
        have hw := hw.2
        refine lv_i2l hx hb dX10_share_62 rfl ?_
        refine lv_lmul hx hb dX10_share_63 ?_
        refine lv_lload_n hx hb dX10_share_64 rfl (lv_at hl 2 rfl) ?_
        refine lv_ldiv hx hb dX10_share_65 hw.1 ?_
        have hw := hw.2
        refine lv_l2i hx hb dX10_share_66 rfl ?_
        exact x_iret (w1 := fun (u : Unit) => (wld_X10_share cI cJ cZ h_p0 ad_p0 p0_places p0_steps p0_pastFirst p0_past p0_goings p0_rowSize p0_ways p0_hasField p0_fieldSize p0_faultNow p0_hasTree p0_treeSize p0_weightCount p0_roundCount p0_setCount p0_has)) hx hb hr hlocks () hw hP hD hS dX10_share_67
      · have hw := hw.2 c12
        refine lv_ldc (v := -2000000002) hx hb hown (hts (.constant RX10 171 (-2000000002)) (by decide +kernel)) dX10_share_48 ?_
        refine lv_goto (tgt := 67) hx hb dX10_share_50 (by decide) ?_
        exact x_iret (w1 := fun (u : Unit) => (wld_X10_share cI cJ cZ h_p0 ad_p0 p0_places p0_steps p0_pastFirst p0_past p0_goings p0_rowSize p0_ways p0_hasField p0_fieldSize p0_faultNow p0_hasTree p0_treeSize p0_weightCount p0_roundCount p0_setCount p0_has)) hx hb hr hlocks () hw hP hD hS dX10_share_67
  · have hw := hw.2 c3
    refine lv_ldc (v := -2000000001) hx hb hown (hts (.constant RX10 159 (-2000000001)) (by decide +kernel)) dX10_share_8 ?_
    exact x_iret (w1 := fun (u : Unit) => (wld_X10_share cI cJ cZ h_p0 ad_p0 p0_places p0_steps p0_pastFirst p0_past p0_goings p0_rowSize p0_ways p0_hasField p0_fieldSize p0_faultNow p0_hasTree p0_treeSize p0_weightCount p0_roundCount p0_setCount p0_has)) hx hb hr hlocks () hw hP hD hS dX10_share_10
abbrev wld_X10_isOfKind (cI cJ cZ : ClassId) : va_W := []
abbrev q_X10_isOfKind (dC : Nat → ClassId) (dI : Nat → Nat → Nat) (cI cJ cZ : ClassId) (post : Int32 → Prop) (A : Nat → Prop) : Array Value → State → Outcome → State → Prop := va_Qi (fun r (u : Unit) => post r ) (fun (u : Unit) t => xPost (dC, dI) A (wld_X10_isOfKind cI cJ cZ) t) A
def w_X10_isOfKind (a0 : Int32) (a1 : Int32) (post : Int32 → Prop) : Prop :=
  (a1 = 0 →
    (post (1 : Int32))) ∧
  (¬ a1 = 0 →
    (a0 = a1 →
      (post (1 : Int32))) ∧
    (¬ a0 = a1 →
      (¬ a1 = (1 : Int32) →
        (post (0 : Int32))) ∧
      (a1 = (1 : Int32) →
        (¬ a0 = (2 : Int32) →
          (post (0 : Int32))) ∧
        (a0 = (2 : Int32) →
          (post (1 : Int32))))))
set_option maxHeartbeats 4000000 in
set_option maxRecDepth 100000 in
theorem c_X10_isOfKind {l : Launch} {dC : Nat → ClassId} {dI : Nat → Nat → Nat} {sz : Nat} {cI cJ cZ : ClassId} {a0 : Int32} {a1 : Int32} {post : Int32 → Prop} (hw : w_X10_isOfKind a0 a1 post) : Met l yX10_isOfKind wsX10_isOfKind ({ frames := 0, cells := 0, slots := 0, locals := 0 }) (va_Pc [.int a0, .int a1] (xPre (dC, dI) cI cJ cZ (wld_X10_isOfKind cI cJ cZ) sz)) (q_X10_isOfKind dC dI cI cJ cZ post (va_A (wld_X10_isOfKind cI cJ cZ) sz)) 0 0 (va_A (wld_X10_isOfKind cI cJ cZ) sz) := by
  refine x_met (cc := cX10_isOfKind) (maxL := 2) (ret := (some .boolean)) (own := RX10) (Qc := fun A => (q_X10_isOfKind dC dI cI cJ cZ post A)) (by decide) rfl rfl (Nat.le_of_ble_eq_true rfl) ?_
  intro p e s m args below meth c A ls E0 hP hD hS hl
  obtain ⟨hx, hb, hr, hml, hown, hts, hlocks, hK, hA, n1, n2⟩ := id E0
  have hS0 := hS
  have hl : lv_has ls 2 [(0, .int a0), (1, .int a1)] := hl
  unfold w_X10_isOfKind at hw
  obtain ⟨H, hH⟩ : ∃ H, H = s.heap := ⟨_, rfl⟩
  have hS : va_S A s.heap H [] := by rw [hH]; exact hS
  have hP : va_P (dC, dI) vwCl (wld_X10_isOfKind cI cJ cZ) H := by rw [hH]; exact hP
  suffices hG : W p l e ({ frames := 0, cells := 0, slots := 0, locals := 0 }) s m args below meth c H [] 0 0 (MQ below (q_X10_isOfKind dC dI cI cJ cZ post A) args s 0 0 A) (F0 m 0 ls []) by rw [hH] at hG; exact hG
  clear hH
  refine lv_iload_n hx hb dX10_isOfKind_0 rfl (lv_at hl 1 rfl) ?_
  refine lv_if_eq (tgt := 19) hx hb dX10_isOfKind_1 (by decide) (fun c1 => ?_) (fun c2 => ?_)
  · have hw := hw.1 c1
    refine lv_iconst (v := 1) hx hb dX10_isOfKind_19 (by decide) ?_
    refine lv_goto (tgt := 24) hx hb dX10_isOfKind_20 (by decide) ?_
    exact x_zret (w1 := fun (u : Unit) => (wld_X10_isOfKind cI cJ cZ)) hx hb hr hlocks (by decide) () hw hP hD hS dX10_isOfKind_24
  · have hw := hw.2 c2
    refine lv_iload_n hx hb dX10_isOfKind_4 rfl (lv_at hl 0 rfl) ?_
    refine lv_iload_n hx hb dX10_isOfKind_5 rfl (lv_at hl 1 rfl) ?_
    refine lv_icmp_eq (tgt := 19) hx hb dX10_isOfKind_6 (by decide) (fun c3 => ?_) (fun c4 => ?_)
    · have hw := hw.1 c3
      refine lv_iconst (v := 1) hx hb dX10_isOfKind_19 (by decide) ?_
      refine lv_goto (tgt := 24) hx hb dX10_isOfKind_20 (by decide) ?_
      exact x_zret (w1 := fun (u : Unit) => (wld_X10_isOfKind cI cJ cZ)) hx hb hr hlocks (by decide) () hw hP hD hS dX10_isOfKind_24
    · have hw := hw.2 c4
      refine lv_iload_n hx hb dX10_isOfKind_9 rfl (lv_at hl 1 rfl) ?_
      refine lv_iconst (v := 1) hx hb dX10_isOfKind_10 (by decide) ?_
      refine lv_icmp_ne (tgt := 23) hx hb dX10_isOfKind_11 (by decide) (fun c5 => ?_) (fun c6 => ?_)
      · have hw := hw.1 c5
        refine lv_iconst (v := 0) hx hb dX10_isOfKind_23 (by decide) ?_
        exact x_zret (w1 := fun (u : Unit) => (wld_X10_isOfKind cI cJ cZ)) hx hb hr hlocks (by decide) () hw hP hD hS dX10_isOfKind_24
      · have hw := hw.2 c6
        refine lv_iload_n hx hb dX10_isOfKind_14 rfl (lv_at hl 0 rfl) ?_
        refine lv_iconst (v := 2) hx hb dX10_isOfKind_15 (by decide) ?_
        refine lv_icmp_ne (tgt := 23) hx hb dX10_isOfKind_16 (by decide) (fun c7 => ?_) (fun c8 => ?_)
        · have hw := hw.1 c7
          refine lv_iconst (v := 0) hx hb dX10_isOfKind_23 (by decide) ?_
          exact x_zret (w1 := fun (u : Unit) => (wld_X10_isOfKind cI cJ cZ)) hx hb hr hlocks (by decide) () hw hP hD hS dX10_isOfKind_24
        · have hw := hw.2 c8
          refine lv_iconst (v := 1) hx hb dX10_isOfKind_19 (by decide) ?_
          refine lv_goto (tgt := 24) hx hb dX10_isOfKind_20 (by decide) ?_
          exact x_zret (w1 := fun (u : Unit) => (wld_X10_isOfKind cI cJ cZ)) hx hb hr hlocks (by decide) () hw hP hD hS dX10_isOfKind_24
abbrev wld_X10_lets (cI cJ cZ : ClassId) (h_p0 : Nat) (h_p3 : Nat) (ad_p0 : Nat → Nat) (n_p3 : Nat) (p0_places : Int32) (p0_steps : Int32) (p0_pastFirst : Int32) (p0_past : Int32) (p0_goings : Int32) (p0_rowSize : Int32) (p0_ways : Int32) (p0_hasField : Int32) (p0_fieldSize : Int32) (p0_faultNow : Int32) (p0_hasTree : Int32) (p0_treeSize : Int32) (p0_weightCount : Int32) (p0_roundCount : Int32) (p0_setCount : Int32) (p0_closes : Nat → Int32) (p0_needs : Nat → Int32) (p0_takes : Nat → Int32) (p3 : Nat → Int32) : va_W := [(h_p0, .inr (10, [.int p0_places, .int p0_steps, .ref (ad_p0 2), .ref (ad_p0 3), .ref (ad_p0 4), .ref (ad_p0 5), .ref (ad_p0 6), .ref (ad_p0 7), .ref (ad_p0 8), .ref (ad_p0 9), .ref (ad_p0 10), .ref (ad_p0 11), .ref (ad_p0 12), .ref (ad_p0 13), .ref (ad_p0 14), .int p0_pastFirst, .int p0_past, .int p0_goings, .int p0_rowSize, .ref (ad_p0 19), .ref (ad_p0 20), .int p0_ways, .ref (ad_p0 22), .ref (ad_p0 23), .int p0_hasField, .int p0_fieldSize, .ref (ad_p0 26), .ref (ad_p0 27), .ref (ad_p0 28), .ref (ad_p0 29), .ref (ad_p0 30), .ref (ad_p0 31), .ref (ad_p0 32), .int p0_faultNow, .int p0_hasTree, .int p0_treeSize, .ref (ad_p0 36), .ref (ad_p0 37), .ref (ad_p0 38), .ref (ad_p0 39), .ref (ad_p0 40), .ref (ad_p0 41), .ref (ad_p0 42), .int p0_weightCount, .ref (ad_p0 44), .int p0_roundCount, .ref (ad_p0 46), .int p0_setCount, .ref (ad_p0 48), .ref (ad_p0 49)])), ((ad_p0 7), .inl (cI, 256, .inl p0_closes)), ((ad_p0 6), .inl (cI, 256, .inl p0_needs)), ((ad_p0 4), .inl (cI, 256, .inl p0_takes)), (h_p3, .inl (cI, n_p3, .inl p3))]
abbrev q_X10_lets (dC : Nat → ClassId) (dI : Nat → Nat → Nat) (cI cJ cZ : ClassId) (h_p0 : Nat) (h_p3 : Nat) (ad_p0 : Nat → Nat) (n_p3 : Nat) (p0_places : Int32) (p0_steps : Int32) (p0_pastFirst : Int32) (p0_past : Int32) (p0_goings : Int32) (p0_rowSize : Int32) (p0_ways : Int32) (p0_hasField : Int32) (p0_fieldSize : Int32) (p0_faultNow : Int32) (p0_hasTree : Int32) (p0_treeSize : Int32) (p0_weightCount : Int32) (p0_roundCount : Int32) (p0_setCount : Int32) (p0_closes : Nat → Int32) (p0_needs : Nat → Int32) (p0_takes : Nat → Int32) (p3 : Nat → Int32) (post : Int32 → Prop) (A : Nat → Prop) : Array Value → State → Outcome → State → Prop := va_Qi (fun r (u : Unit) => post r ) (fun (u : Unit) t => xPost (dC, dI) A (wld_X10_lets cI cJ cZ h_p0 h_p3 ad_p0 n_p3 p0_places p0_steps p0_pastFirst p0_past p0_goings p0_rowSize p0_ways p0_hasField p0_fieldSize p0_faultNow p0_hasTree p0_treeSize p0_weightCount p0_roundCount p0_setCount p0_closes p0_needs p0_takes p3) t) A
def w_X10_lets (n_p3 : Nat) (p0_closes : Nat → Int32) (p0_needs : Nat → Int32) (p0_takes : Nat → Int32) (p3 : Nat → Int32) (a1 : Int32) (a2 : Int32) (a4 : Int32) (post : Int32 → Prop) : Prop :=
  ∀ x1 : Int32, x1 = (((16 : Int32) * a1) + a2) →
  vp_in (a4 + a2) n_p3 ∧
  ∀ x2 : Int32, x2 = (p3 (a4 + a2).toNatClampNeg) →
  vp_in x1 256 ∧
  (x2 < (p0_takes x1.toNatClampNeg) →
    (post (0 : Int32))) ∧
  (¬ x2 < (p0_takes x1.toNatClampNeg) →
    vp_in x1 256 ∧
    (x2 < (p0_needs x1.toNatClampNeg) →
      (post (0 : Int32))) ∧
    (¬ x2 < (p0_needs x1.toNatClampNeg) →
      vp_in x1 256 ∧
      ((p0_closes x1.toNatClampNeg) = 0 →
        (post (1 : Int32))) ∧
      (¬ (p0_closes x1.toNatClampNeg) = 0 →
        (¬ x2 = 0 →
          (post (0 : Int32))) ∧
        (x2 = 0 →
          (post (1 : Int32))))))
set_option maxHeartbeats 4000000 in
set_option maxRecDepth 100000 in
theorem c_X10_lets {l : Launch} {dC : Nat → ClassId} {dI : Nat → Nat → Nat} {sz : Nat} {cI cJ cZ : ClassId} {h_p0 : Nat} {h_p3 : Nat} {ad_p0 : Nat → Nat} {n_p3 : Nat} {p0_places : Int32} {p0_steps : Int32} {p0_pastFirst : Int32} {p0_past : Int32} {p0_goings : Int32} {p0_rowSize : Int32} {p0_ways : Int32} {p0_hasField : Int32} {p0_fieldSize : Int32} {p0_faultNow : Int32} {p0_hasTree : Int32} {p0_treeSize : Int32} {p0_weightCount : Int32} {p0_roundCount : Int32} {p0_setCount : Int32} {p0_closes : Nat → Int32} {p0_needs : Nat → Int32} {p0_takes : Nat → Int32} {p3 : Nat → Int32} {a1 : Int32} {a2 : Int32} {a4 : Int32} {post : Int32 → Prop} (hw : w_X10_lets n_p3 p0_closes p0_needs p0_takes p3 a1 a2 a4 post) : Met l yX10_lets wsX10_lets ({ frames := 0, cells := 0, slots := 0, locals := 0 }) (va_Pc [.ref h_p0, .int a1, .int a2, .ref h_p3, .int a4] (xPre (dC, dI) cI cJ cZ (wld_X10_lets cI cJ cZ h_p0 h_p3 ad_p0 n_p3 p0_places p0_steps p0_pastFirst p0_past p0_goings p0_rowSize p0_ways p0_hasField p0_fieldSize p0_faultNow p0_hasTree p0_treeSize p0_weightCount p0_roundCount p0_setCount p0_closes p0_needs p0_takes p3) sz)) (q_X10_lets dC dI cI cJ cZ h_p0 h_p3 ad_p0 n_p3 p0_places p0_steps p0_pastFirst p0_past p0_goings p0_rowSize p0_ways p0_hasField p0_fieldSize p0_faultNow p0_hasTree p0_treeSize p0_weightCount p0_roundCount p0_setCount p0_closes p0_needs p0_takes p3 post (va_A (wld_X10_lets cI cJ cZ h_p0 h_p3 ad_p0 n_p3 p0_places p0_steps p0_pastFirst p0_past p0_goings p0_rowSize p0_ways p0_hasField p0_fieldSize p0_faultNow p0_hasTree p0_treeSize p0_weightCount p0_roundCount p0_setCount p0_closes p0_needs p0_takes p3) sz)) 0 0 (va_A (wld_X10_lets cI cJ cZ h_p0 h_p3 ad_p0 n_p3 p0_places p0_steps p0_pastFirst p0_past p0_goings p0_rowSize p0_ways p0_hasField p0_fieldSize p0_faultNow p0_hasTree p0_treeSize p0_weightCount p0_roundCount p0_setCount p0_closes p0_needs p0_takes p3) sz) := by
  refine x_met (cc := cX10_lets) (maxL := 7) (ret := (some .boolean)) (own := RX10) (Qc := fun A => (q_X10_lets dC dI cI cJ cZ h_p0 h_p3 ad_p0 n_p3 p0_places p0_steps p0_pastFirst p0_past p0_goings p0_rowSize p0_ways p0_hasField p0_fieldSize p0_faultNow p0_hasTree p0_treeSize p0_weightCount p0_roundCount p0_setCount p0_closes p0_needs p0_takes p3 post A)) (by decide) rfl rfl (Nat.le_of_ble_eq_true rfl) ?_
  intro p e s m args below meth c A ls E0 hP hD hS hl
  obtain ⟨hx, hb, hr, hml, hown, hts, hlocks, hK, hA, n1, n2⟩ := id E0
  have iX10 : ∀ w ∈ u_ws RX10 TX10 50, w ∈ wsX10_lets := fun w h => List.mem_cons_of_mem _ (List.mem_append_right _ h)
  have hS0 := hS
  have hl : lv_has ls 7 [(0, .ref h_p0), (1, .int a1), (2, .int a2), (3, .ref h_p3), (4, .int a4)] := hl
  unfold w_X10_lets at hw
  obtain ⟨H, hH⟩ : ∃ H, H = s.heap := ⟨_, rfl⟩
  have hS : va_S A s.heap H [] := by rw [hH]; exact hS
  have hP : va_P (dC, dI) vwCl (wld_X10_lets cI cJ cZ h_p0 h_p3 ad_p0 n_p3 p0_places p0_steps p0_pastFirst p0_past p0_goings p0_rowSize p0_ways p0_hasField p0_fieldSize p0_faultNow p0_hasTree p0_treeSize p0_weightCount p0_roundCount p0_setCount p0_closes p0_needs p0_takes p3) H := by rw [hH]; exact hP
  suffices hG : W p l e ({ frames := 0, cells := 0, slots := 0, locals := 0 }) s m args below meth c H [] 0 0 (MQ below (q_X10_lets dC dI cI cJ cZ h_p0 h_p3 ad_p0 n_p3 p0_places p0_steps p0_pastFirst p0_past p0_goings p0_rowSize p0_ways p0_hasField p0_fieldSize p0_faultNow p0_hasTree p0_treeSize p0_weightCount p0_roundCount p0_setCount p0_closes p0_needs p0_takes p3 post A) args s 0 0 A) (F0 m 0 ls []) by rw [hH] at hG; exact hG
  clear hH
  refine lv_bipush (v := 16) hx hb dX10_lets_0 (by decide) ?_
  refine lv_iload_n hx hb dX10_lets_2 rfl (lv_at hl 1 rfl) ?_
  refine lv_imul hx hb dX10_lets_3 ?_
  refine lv_iload_n hx hb dX10_lets_4 rfl (lv_at hl 2 rfl) ?_
  refine lv_iadd hx hb dX10_lets_5 ?_
  refine lv_topi (fun x1 ex1 => ?_)
  have hw := hw x1 ex1
  refine lv_istore (lv' := [(5, .int x1), (0, .ref h_p0), (1, .int a1), (2, .int a2), (3, .ref h_p3), (4, .int a4)]) hx hb dX10_lets_6 hl (by decide) rfl (fun ls hl => ?_)
  refine lv_aload_n hx hb dX10_lets_8 rfl (lv_at hl 4 rfl) ?_
  refine lv_iload hx hb dX10_lets_9 (lv_at hl 5 rfl) ?_
  refine lv_iload_n hx hb dX10_lets_11 rfl (lv_at hl 3 rfl) ?_
  refine lv_iadd hx hb dX10_lets_12 ?_
  refine va_iald hx hb hK hP 4 0 rfl rfl hw.1 dX10_lets_13 ?_
  have hw := hw.2
  refine lv_topi (fun x2 ex2 => ?_)
  have hw := hw x2 ex2
  refine lv_istore (lv' := [(6, .int x2), (5, .int x1), (0, .ref h_p0), (1, .int a1), (2, .int a2), (3, .ref h_p3), (4, .int a4)]) hx hb dX10_lets_14 hl (by decide) rfl (fun ls hl => ?_)
  refine lv_iload hx hb dX10_lets_16 (lv_at hl 0 rfl) ?_
  refine lv_aload_n hx hb dX10_lets_18 rfl (lv_at hl 2 rfl) ?_
  refine va_get (D := (dC, dI)) (ci := 10) (v := .ref (ad_p0 4)) (C := RX10) (T := TX10) (N := 50) hx hb hts iX10 hown hK hP 0 rfl rfl 4 (by decide) (hts (.fieldLink RX10 16 "NetHouseModel" "takes" "[I") (by decide +kernel)) (fun _ h9 => h9) rfl dX10_lets_19 ?_
  refine lv_iload hx hb dX10_lets_22 (lv_at hl 1 rfl) ?_
  refine va_iald hx hb hK hP 3 0 rfl rfl hw.1 dX10_lets_24 ?_
  have hw := hw.2
  refine lv_icmp_lt (tgt := 59) hx hb dX10_lets_25 (by decide) (fun c3 => ?_) (fun c4 => ?_)
  · have hw := hw.1 c3
    refine lv_iconst (v := 0) hx hb dX10_lets_59 (by decide) ?_
    exact x_zret (w1 := fun (u : Unit) => (wld_X10_lets cI cJ cZ h_p0 h_p3 ad_p0 n_p3 p0_places p0_steps p0_pastFirst p0_past p0_goings p0_rowSize p0_ways p0_hasField p0_fieldSize p0_faultNow p0_hasTree p0_treeSize p0_weightCount p0_roundCount p0_setCount p0_closes p0_needs p0_takes p3)) hx hb hr hlocks (by decide) () hw hP hD hS dX10_lets_60
  · have hw := hw.2 c4
    refine lv_iload hx hb dX10_lets_28 (lv_at hl 0 rfl) ?_
    refine lv_aload_n hx hb dX10_lets_30 rfl (lv_at hl 2 rfl) ?_
    refine va_get (D := (dC, dI)) (ci := 10) (v := .ref (ad_p0 6)) (C := RX10) (T := TX10) (N := 50) hx hb hts iX10 hown hK hP 0 rfl rfl 6 (by decide) (hts (.fieldLink RX10 22 "NetHouseModel" "needs" "[I") (by decide +kernel)) (fun _ h9 => h9) rfl dX10_lets_31 ?_
    refine lv_iload hx hb dX10_lets_34 (lv_at hl 1 rfl) ?_
    refine va_iald hx hb hK hP 2 0 rfl rfl hw.1 dX10_lets_36 ?_
    have hw := hw.2
    refine lv_icmp_lt (tgt := 59) hx hb dX10_lets_37 (by decide) (fun c5 => ?_) (fun c6 => ?_)
    · have hw := hw.1 c5
      refine lv_iconst (v := 0) hx hb dX10_lets_59 (by decide) ?_
      exact x_zret (w1 := fun (u : Unit) => (wld_X10_lets cI cJ cZ h_p0 h_p3 ad_p0 n_p3 p0_places p0_steps p0_pastFirst p0_past p0_goings p0_rowSize p0_ways p0_hasField p0_fieldSize p0_faultNow p0_hasTree p0_treeSize p0_weightCount p0_roundCount p0_setCount p0_closes p0_needs p0_takes p3)) hx hb hr hlocks (by decide) () hw hP hD hS dX10_lets_60
    · have hw := hw.2 c6
      refine lv_aload_n hx hb dX10_lets_40 rfl (lv_at hl 2 rfl) ?_
      refine va_get (D := (dC, dI)) (ci := 10) (v := .ref (ad_p0 7)) (C := RX10) (T := TX10) (N := 50) hx hb hts iX10 hown hK hP 0 rfl rfl 7 (by decide) (hts (.fieldLink RX10 25 "NetHouseModel" "closes" "[I") (by decide +kernel)) (fun _ h9 => h9) rfl dX10_lets_41 ?_
      refine lv_iload hx hb dX10_lets_44 (lv_at hl 1 rfl) ?_
      refine va_iald hx hb hK hP 1 0 rfl rfl hw.1 dX10_lets_46 ?_
      have hw := hw.2
      refine lv_if_eq (tgt := 55) hx hb dX10_lets_47 (by decide) (fun c7 => ?_) (fun c8 => ?_)
      · have hw := hw.1 c7
        refine lv_iconst (v := 1) hx hb dX10_lets_55 (by decide) ?_
        refine lv_goto (tgt := 60) hx hb dX10_lets_56 (by decide) ?_
        exact x_zret (w1 := fun (u : Unit) => (wld_X10_lets cI cJ cZ h_p0 h_p3 ad_p0 n_p3 p0_places p0_steps p0_pastFirst p0_past p0_goings p0_rowSize p0_ways p0_hasField p0_fieldSize p0_faultNow p0_hasTree p0_treeSize p0_weightCount p0_roundCount p0_setCount p0_closes p0_needs p0_takes p3)) hx hb hr hlocks (by decide) () hw hP hD hS dX10_lets_60
      · have hw := hw.2 c8
        refine lv_iload hx hb dX10_lets_50 (lv_at hl 0 rfl) ?_
        refine lv_if_ne (tgt := 59) hx hb dX10_lets_52 (by decide) (fun c9 => ?_) (fun c10 => ?_)
        · have hw := hw.1 c9
          refine lv_iconst (v := 0) hx hb dX10_lets_59 (by decide) ?_
          exact x_zret (w1 := fun (u : Unit) => (wld_X10_lets cI cJ cZ h_p0 h_p3 ad_p0 n_p3 p0_places p0_steps p0_pastFirst p0_past p0_goings p0_rowSize p0_ways p0_hasField p0_fieldSize p0_faultNow p0_hasTree p0_treeSize p0_weightCount p0_roundCount p0_setCount p0_closes p0_needs p0_takes p3)) hx hb hr hlocks (by decide) () hw hP hD hS dX10_lets_60
        · have hw := hw.2 c10
          refine lv_iconst (v := 1) hx hb dX10_lets_55 (by decide) ?_
          refine lv_goto (tgt := 60) hx hb dX10_lets_56 (by decide) ?_
          exact x_zret (w1 := fun (u : Unit) => (wld_X10_lets cI cJ cZ h_p0 h_p3 ad_p0 n_p3 p0_places p0_steps p0_pastFirst p0_past p0_goings p0_rowSize p0_ways p0_hasField p0_fieldSize p0_faultNow p0_hasTree p0_treeSize p0_weightCount p0_roundCount p0_setCount p0_closes p0_needs p0_takes p3)) hx hb hr hlocks (by decide) () hw hP hD hS dX10_lets_60
abbrev wld_X10_mayIn (cI cJ cZ : ClassId) (h_p0 : Nat) (h_p2 : Nat) (ad_p0 : Nat → Nat) (n_p2 : Nat) (p0_places : Int32) (p0_steps : Int32) (p0_pastFirst : Int32) (p0_past : Int32) (p0_goings : Int32) (p0_rowSize : Int32) (p0_ways : Int32) (p0_hasField : Int32) (p0_fieldSize : Int32) (p0_faultNow : Int32) (p0_hasTree : Int32) (p0_treeSize : Int32) (p0_weightCount : Int32) (p0_roundCount : Int32) (p0_setCount : Int32) (p0_closes : Nat → Int32) (p0_needs : Nat → Int32) (p0_takes : Nat → Int32) (p2 : Nat → Int32) : va_W := [(h_p0, .inr (10, [.int p0_places, .int p0_steps, .ref (ad_p0 2), .ref (ad_p0 3), .ref (ad_p0 4), .ref (ad_p0 5), .ref (ad_p0 6), .ref (ad_p0 7), .ref (ad_p0 8), .ref (ad_p0 9), .ref (ad_p0 10), .ref (ad_p0 11), .ref (ad_p0 12), .ref (ad_p0 13), .ref (ad_p0 14), .int p0_pastFirst, .int p0_past, .int p0_goings, .int p0_rowSize, .ref (ad_p0 19), .ref (ad_p0 20), .int p0_ways, .ref (ad_p0 22), .ref (ad_p0 23), .int p0_hasField, .int p0_fieldSize, .ref (ad_p0 26), .ref (ad_p0 27), .ref (ad_p0 28), .ref (ad_p0 29), .ref (ad_p0 30), .ref (ad_p0 31), .ref (ad_p0 32), .int p0_faultNow, .int p0_hasTree, .int p0_treeSize, .ref (ad_p0 36), .ref (ad_p0 37), .ref (ad_p0 38), .ref (ad_p0 39), .ref (ad_p0 40), .ref (ad_p0 41), .ref (ad_p0 42), .int p0_weightCount, .ref (ad_p0 44), .int p0_roundCount, .ref (ad_p0 46), .int p0_setCount, .ref (ad_p0 48), .ref (ad_p0 49)])), ((ad_p0 7), .inl (cI, 256, .inl p0_closes)), ((ad_p0 6), .inl (cI, 256, .inl p0_needs)), ((ad_p0 4), .inl (cI, 256, .inl p0_takes)), (h_p2, .inl (cI, n_p2, .inl p2))]
abbrev q_X10_mayIn (dC : Nat → ClassId) (dI : Nat → Nat → Nat) (cI cJ cZ : ClassId) (h_p0 : Nat) (h_p2 : Nat) (ad_p0 : Nat → Nat) (n_p2 : Nat) (p0_places : Int32) (p0_steps : Int32) (p0_pastFirst : Int32) (p0_past : Int32) (p0_goings : Int32) (p0_rowSize : Int32) (p0_ways : Int32) (p0_hasField : Int32) (p0_fieldSize : Int32) (p0_faultNow : Int32) (p0_hasTree : Int32) (p0_treeSize : Int32) (p0_weightCount : Int32) (p0_roundCount : Int32) (p0_setCount : Int32) (p0_closes : Nat → Int32) (p0_needs : Nat → Int32) (p0_takes : Nat → Int32) (p2 : Nat → Int32) (post : Int32 → Prop) (A : Nat → Prop) : Array Value → State → Outcome → State → Prop := va_Qi (fun r (u : Unit) => post r ) (fun (u : Unit) t => xPost (dC, dI) A (wld_X10_mayIn cI cJ cZ h_p0 h_p2 ad_p0 n_p2 p0_places p0_steps p0_pastFirst p0_past p0_goings p0_rowSize p0_ways p0_hasField p0_fieldSize p0_faultNow p0_hasTree p0_treeSize p0_weightCount p0_roundCount p0_setCount p0_closes p0_needs p0_takes p2) t) A
def w_X10_mayIn_L6b (n_p2 : Nat) (v1 : Int32) (v3 : Int32) (p0_places : Int32) (p0_closes : Nat → Int32) (p0_needs : Nat → Int32) (p0_takes : Nat → Int32) (p2 : Nat → Int32) (post : Int32 → Prop) (K : (Int32) → (Int32) → Prop) (rec : (Int32) → (Int32) → Prop) (v4 : Int32) (v5 : Int32) : Prop :=
    (p0_places ≤ v5 →
      K v4 v5) ∧
    (¬ p0_places ≤ v5 →
      (v4 = 0 →
        ∀ x5 : Int32, x5 = v5 + (1 : Int32) →
        rec (0 : Int32) x5) ∧
      (¬ v4 = 0 →
        w_X10_lets n_p2 p0_closes p0_needs p0_takes p2 v1 v5 v3 (fun r6 =>
        (r6 = 0 →
          ∀ x9 : Int32, x9 = v5 + (1 : Int32) →
          rec (0 : Int32) x9) ∧
        (¬ r6 = 0 →
          ∀ x10 : Int32, x10 = v5 + (1 : Int32) →
          rec (1 : Int32) x10))))
def w_X10_mayIn_L6 (n_p2 : Nat) (v1 : Int32) (v3 : Int32) (p0_places : Int32) (p0_closes : Nat → Int32) (p0_needs : Nat → Int32) (p0_takes : Nat → Int32) (p2 : Nat → Int32) (post : Int32 → Prop) (K : (Int32) → (Int32) → Prop) : Nat → (Int32) → (Int32) → Prop
  | 0, _, _ => False
  | n + 1, v4, v5 => w_X10_mayIn_L6b n_p2 v1 v3 p0_places p0_closes p0_needs p0_takes p2 post K (w_X10_mayIn_L6 n_p2 v1 v3 p0_places p0_closes p0_needs p0_takes p2 post K n) v4 v5
def w_X10_mayIn (n_p2 : Nat) (p0_places : Int32) (p0_closes : Nat → Int32) (p0_needs : Nat → Int32) (p0_takes : Nat → Int32) (p2 : Nat → Int32) (a1 : Int32) (a3 : Int32) (post : Int32 → Prop) : Prop :=
  ∃ n : Nat, w_X10_mayIn_L6 n_p2 a1 a3 p0_places p0_closes p0_needs p0_takes p2 post (fun v12 v13 =>
      v12 &&& 1 = v12 ∧
      (post v12)) n (1 : Int32) (0 : Int32)
set_option maxHeartbeats 4000000 in
set_option maxRecDepth 100000 in
theorem c_X10_mayIn_L6 {p : Program} {l : Launch} {e : Env} {s : State} {m : MethodId} {args : Array Value} {below : List Frame} {meth : Method} {c : Code} {dC : Nat → ClassId} {dI : Nat → Nat → Nat} {A : Nat → Prop} {cI cJ cZ : ClassId} {h_p0 : Nat} {h_p2 : Nat} {ad_p0 : Nat → Nat} {n_p2 : Nat} {p0_places : Int32} {p0_steps : Int32} {p0_pastFirst : Int32} {p0_past : Int32} {p0_goings : Int32} {p0_rowSize : Int32} {p0_ways : Int32} {p0_hasField : Int32} {p0_fieldSize : Int32} {p0_faultNow : Int32} {p0_hasTree : Int32} {p0_treeSize : Int32} {p0_weightCount : Int32} {p0_roundCount : Int32} {p0_setCount : Int32} {p0_closes : Nat → Int32} {p0_needs : Nat → Int32} {p0_takes : Nat → Int32} {p2 : Nat → Int32} {v1 : Int32} {v3 : Int32}  {post : Int32 → Prop} {K : (Int32) → (Int32) → Prop} (E0 : xEnv p s m args meth c cX10_mayIn (some .boolean) 6 RX10 wsX10_mayIn (dC, dI) cI cJ cZ A) (hk : ∀ (v4 : Int32) (v5 : Int32) (H : Heap) (locs : List Loc) (ls : Array Slot), K v4 v5 → va_P (dC, dI) vwCl (wld_X10_mayIn cI cJ cZ h_p0 h_p2 ad_p0 n_p2 p0_places p0_steps p0_pastFirst p0_past p0_goings p0_rowSize p0_ways p0_hasField p0_fieldSize p0_faultNow p0_hasTree p0_treeSize p0_weightCount p0_roundCount p0_setCount p0_closes p0_needs p0_takes p2) H → va_D A (wld_X10_mayIn cI cJ cZ h_p0 h_p2 ad_p0 n_p2 p0_places p0_steps p0_pastFirst p0_past p0_goings p0_rowSize p0_ways p0_hasField p0_fieldSize p0_faultNow p0_hasTree p0_treeSize p0_weightCount p0_roundCount p0_setCount p0_closes p0_needs p0_takes p2) → va_S A s.heap H locs → lv_has ls 6 [(4, .int v4)] → W p l e ({ frames := 1, cells := 0, slots := 0, locals := 26 }) s m args below meth c H locs 0 0 (MQ below (q_X10_mayIn dC dI cI cJ cZ h_p0 h_p2 ad_p0 n_p2 p0_places p0_steps p0_pastFirst p0_past p0_goings p0_rowSize p0_ways p0_hasField p0_fieldSize p0_faultNow p0_hasTree p0_treeSize p0_weightCount p0_roundCount p0_setCount p0_closes p0_needs p0_takes p2 post A) args s 0 0 A) (F0 m 45 ls [])) : ∀ (n : Nat) (v4 : Int32) (v5 : Int32), w_X10_mayIn_L6 n_p2 v1 v3 p0_places p0_closes p0_needs p0_takes p2 post K n v4 v5 → ∀ (H : Heap) (locs : List Loc) (ls : Array Slot), va_P (dC, dI) vwCl (wld_X10_mayIn cI cJ cZ h_p0 h_p2 ad_p0 n_p2 p0_places p0_steps p0_pastFirst p0_past p0_goings p0_rowSize p0_ways p0_hasField p0_fieldSize p0_faultNow p0_hasTree p0_treeSize p0_weightCount p0_roundCount p0_setCount p0_closes p0_needs p0_takes p2) H → va_D A (wld_X10_mayIn cI cJ cZ h_p0 h_p2 ad_p0 n_p2 p0_places p0_steps p0_pastFirst p0_past p0_goings p0_rowSize p0_ways p0_hasField p0_fieldSize p0_faultNow p0_hasTree p0_treeSize p0_weightCount p0_roundCount p0_setCount p0_closes p0_needs p0_takes p2) → va_S A s.heap H locs → lv_has ls 6 [(0, .ref h_p0), (1, .int v1), (2, .ref h_p2), (3, .int v3), (4, .int v4), (5, .int v5)] → W p l e ({ frames := 1, cells := 0, slots := 0, locals := 26 }) s m args below meth c H locs 0 0 (MQ below (q_X10_mayIn dC dI cI cJ cZ h_p0 h_p2 ad_p0 n_p2 p0_places p0_steps p0_pastFirst p0_past p0_goings p0_rowSize p0_ways p0_hasField p0_fieldSize p0_faultNow p0_hasTree p0_treeSize p0_weightCount p0_roundCount p0_setCount p0_closes p0_needs p0_takes p2 post A) args s 0 0 A) (F0 m 6 ls []) := by
  obtain ⟨hx, hb, hr, hml, hown, hts, hlocks, hK, hA, n1, n2⟩ := id E0
  have iX10 : ∀ w ∈ u_ws RX10 TX10 50, w ∈ wsX10_mayIn := fun w h => List.mem_cons_of_mem _ (List.mem_append_right _ h)
  intro n
  induction n with
  | zero => intro v4 v5 hw; exact hw.elim
  | succ n ih =>
    intro v4 v5 hw H locs ls hP hD hS hl
    have hw : w_X10_mayIn_L6b n_p2 v1 v3 p0_places p0_closes p0_needs p0_takes p2 post K (w_X10_mayIn_L6 n_p2 v1 v3 p0_places p0_closes p0_needs p0_takes p2 post K n) v4 v5 := hw
    unfold w_X10_mayIn_L6b at hw
    refine lv_iload hx hb dX10_mayIn_6 (lv_at hl 5 rfl) ?_
    refine lv_aload_n hx hb dX10_mayIn_8 rfl (lv_at hl 0 rfl) ?_
    refine va_get (D := (dC, dI)) (ci := 10) (v := .int p0_places) (C := RX10) (T := TX10) (N := 50) hx hb hts iX10 hown hK hP 0 rfl rfl 0 (by decide) (hts (.fieldLink RX10 127 "NetHouseModel" "places" "I") (by decide +kernel)) (fun _ h9 => h9) rfl dX10_mayIn_9 ?_
    refine lv_icmp_ge (tgt := 45) hx hb dX10_mayIn_12 (by decide) (fun c1 => ?_) (fun c2 => ?_)
    · have hw := hw.1 c1
      exact hk _ _ _ _ _ hw hP hD hS (lv_sub hl [4] rfl)
    · have hw := hw.2 c2
      refine lv_iload hx hb dX10_mayIn_15 (lv_at hl 4 rfl) ?_
      refine lv_if_eq (tgt := 36) hx hb dX10_mayIn_17 (by decide) (fun c3 => ?_) (fun c4 => ?_)
      · have hw := hw.1 c3
        refine lv_iconst (v := 0) hx hb dX10_mayIn_36 (by decide) ?_
        refine lv_istore (lv' := [(4, .int (0 : Int32)), (0, .ref h_p0), (1, .int v1), (2, .ref h_p2), (3, .int v3), (5, .int v5)]) hx hb dX10_mayIn_37 hl (by decide) rfl (fun ls hl => ?_)
        obtain ⟨x5, ex5⟩ : ∃ y : Int32, y = v5 + (1 : Int32) := ⟨_, rfl⟩
        have hw := hw x5 ex5
        refine lv_iinc (v := x5) (lv' := [(5, .int x5), (4, .int (0 : Int32)), (0, .ref h_p0), (1, .int v1), (2, .ref h_p2), (3, .int v3)]) hx hb dX10_mayIn_39 hl (k := 5) rfl (by rw [ex5]; rfl) (by decide) rfl (fun ls hl => ?_)
        refine lv_goto (tgt := 6) hx hb dX10_mayIn_42 (by decide) ?_
        exact ih _ _ hw _ _ _ hP hD hS (lv_sub hl [2, 3, 4, 5, 1, 0] rfl)
      · have hw := hw.2 c4
        refine lv_aload_n hx hb dX10_mayIn_20 rfl (lv_at hl 0 rfl) ?_
        refine lv_iload_n hx hb dX10_mayIn_21 rfl (lv_at hl 1 rfl) ?_
        refine lv_iload hx hb dX10_mayIn_22 (lv_at hl 5 rfl) ?_
        refine lv_aload_n hx hb dX10_mayIn_24 rfl (lv_at hl 2 rfl) ?_
        refine lv_iload_n hx hb dX10_mayIn_25 rfl (lv_at hl 3 rfl) ?_
        obtain ⟨hPc, hDc⟩ := x_sub (wc := (wld_X10_lets cI cJ cZ h_p0 h_p2 ad_p0 n_p2 p0_places p0_steps p0_pastFirst p0_past p0_goings p0_rowSize p0_ways p0_hasField p0_fieldSize p0_faultNow p0_hasTree p0_treeSize p0_weightCount p0_roundCount p0_setCount p0_closes p0_needs p0_takes p2)) hP hD [0, 1, 2, 3, 4] (n := 5) rfl rfl (by decide +kernel)
        refine x_calli (ws' := fun (u : Unit) => (wld_X10_mayIn cI cJ cZ h_p0 h_p2 ad_p0 n_p2 p0_places p0_steps p0_pastFirst p0_past p0_goings p0_rowSize p0_ways p0_hasField p0_fieldSize p0_faultNow p0_hasTree p0_treeSize p0_weightCount p0_roundCount p0_setCount p0_closes p0_needs p0_takes p2)) hP hD hS hA [0, 1, 2, 3, 4] [] [0, 1, 2, 3, 4] (n := 5) (k := 5) rfl (fun _ => rfl) rfl (by decide +kernel) (fun _ => rfl) (va_runV (As := [.int v1, .int v5, .ref h_p2, .int v3]) (rest := []) ⟨hx, hb, hml, hown, hts⟩ (c_X10_lets (l := l) (dC := dC) (dI := dI) (cI := cI) (cJ := cJ) (cZ := cZ) (sz := H.size) (h_p0 := h_p0) (h_p3 := h_p2) (ad_p0 := ad_p0) (n_p3 := n_p2) (p0_places := p0_places) (p0_steps := p0_steps) (p0_pastFirst := p0_pastFirst) (p0_past := p0_past) (p0_goings := p0_goings) (p0_rowSize := p0_rowSize) (p0_ways := p0_ways) (p0_hasField := p0_hasField) (p0_fieldSize := p0_fieldSize) (p0_faultNow := p0_faultNow) (p0_hasTree := p0_hasTree) (p0_treeSize := p0_treeSize) (p0_weightCount := p0_weightCount) (p0_roundCount := p0_roundCount) (p0_setCount := p0_setCount) (p0_closes := p0_closes) (p0_needs := p0_needs) (p0_takes := p0_takes) (p3 := p2) hw) (cwV 4 hts gX10_mayIn_X10_lets rfl rfl rfl (by decide +kernel) ⟨Nat.le_of_ble_eq_true rfl, Nat.le_of_ble_eq_true rfl⟩) ⟨xPre_blind, va_recv hK hP (ci := 10) (q0 := 0) rfl rfl, xPre_at hK hPc hDc n1 n2⟩ rfl rfl hl.1 rfl (lv_room (Nat.le_of_ble_eq_true rfl)) dX10_mayIn_26 ⟨Nat.zero_le _, Nat.zero_le _⟩) (fun r6 u H locs hw hP hD hS => ?_)
        try dsimp only at hw
        have hP : va_P (dC, dI) vwCl (wld_X10_mayIn cI cJ cZ h_p0 h_p2 ad_p0 n_p2 p0_places p0_steps p0_pastFirst p0_past p0_goings p0_rowSize p0_ways p0_hasField p0_fieldSize p0_faultNow p0_hasTree p0_treeSize p0_weightCount p0_roundCount p0_setCount p0_closes p0_needs p0_takes p2) H := hP
        have hD : va_D A (wld_X10_mayIn cI cJ cZ h_p0 h_p2 ad_p0 n_p2 p0_places p0_steps p0_pastFirst p0_past p0_goings p0_rowSize p0_ways p0_hasField p0_fieldSize p0_faultNow p0_hasTree p0_treeSize p0_weightCount p0_roundCount p0_setCount p0_closes p0_needs p0_takes p2) := hD
        refine lv_if_eq (tgt := 36) hx hb dX10_mayIn_29 (by decide) (fun c7 => ?_) (fun c8 => ?_)
        · have hw := hw.1 c7
          refine lv_iconst (v := 0) hx hb dX10_mayIn_36 (by decide) ?_
          refine lv_istore (lv' := [(4, .int (0 : Int32)), (0, .ref h_p0), (1, .int v1), (2, .ref h_p2), (3, .int v3), (5, .int v5)]) hx hb dX10_mayIn_37 hl (by decide) rfl (fun ls hl => ?_)
          obtain ⟨x9, ex9⟩ : ∃ y : Int32, y = v5 + (1 : Int32) := ⟨_, rfl⟩
          have hw := hw x9 ex9
          refine lv_iinc (v := x9) (lv' := [(5, .int x9), (4, .int (0 : Int32)), (0, .ref h_p0), (1, .int v1), (2, .ref h_p2), (3, .int v3)]) hx hb dX10_mayIn_39 hl (k := 5) rfl (by rw [ex9]; rfl) (by decide) rfl (fun ls hl => ?_)
          refine lv_goto (tgt := 6) hx hb dX10_mayIn_42 (by decide) ?_
          exact ih _ _ hw _ _ _ hP hD hS (lv_sub hl [2, 3, 4, 5, 1, 0] rfl)
        · have hw := hw.2 c8
          refine lv_iconst (v := 1) hx hb dX10_mayIn_32 (by decide) ?_
          refine lv_goto (tgt := 37) hx hb dX10_mayIn_33 (by decide) ?_
          refine lv_istore (lv' := [(4, .int (1 : Int32)), (0, .ref h_p0), (1, .int v1), (2, .ref h_p2), (3, .int v3), (5, .int v5)]) hx hb dX10_mayIn_37 hl (by decide) rfl (fun ls hl => ?_)
          obtain ⟨x10, ex10⟩ : ∃ y : Int32, y = v5 + (1 : Int32) := ⟨_, rfl⟩
          have hw := hw x10 ex10
          refine lv_iinc (v := x10) (lv' := [(5, .int x10), (4, .int (1 : Int32)), (0, .ref h_p0), (1, .int v1), (2, .ref h_p2), (3, .int v3)]) hx hb dX10_mayIn_39 hl (k := 5) rfl (by rw [ex10]; rfl) (by decide) rfl (fun ls hl => ?_)
          refine lv_goto (tgt := 6) hx hb dX10_mayIn_42 (by decide) ?_
          exact ih _ _ hw _ _ _ hP hD hS (lv_sub hl [2, 3, 4, 5, 1, 0] rfl)
set_option maxHeartbeats 4000000 in
set_option maxRecDepth 100000 in
theorem c_X10_mayIn {l : Launch} {dC : Nat → ClassId} {dI : Nat → Nat → Nat} {sz : Nat} {cI cJ cZ : ClassId} {h_p0 : Nat} {h_p2 : Nat} {ad_p0 : Nat → Nat} {n_p2 : Nat} {p0_places : Int32} {p0_steps : Int32} {p0_pastFirst : Int32} {p0_past : Int32} {p0_goings : Int32} {p0_rowSize : Int32} {p0_ways : Int32} {p0_hasField : Int32} {p0_fieldSize : Int32} {p0_faultNow : Int32} {p0_hasTree : Int32} {p0_treeSize : Int32} {p0_weightCount : Int32} {p0_roundCount : Int32} {p0_setCount : Int32} {p0_closes : Nat → Int32} {p0_needs : Nat → Int32} {p0_takes : Nat → Int32} {p2 : Nat → Int32} {a1 : Int32} {a3 : Int32} {post : Int32 → Prop} (hw : w_X10_mayIn n_p2 p0_places p0_closes p0_needs p0_takes p2 a1 a3 post) : Met l yX10_mayIn wsX10_mayIn ({ frames := 1, cells := 0, slots := 0, locals := 26 }) (va_Pc [.ref h_p0, .int a1, .ref h_p2, .int a3] (xPre (dC, dI) cI cJ cZ (wld_X10_mayIn cI cJ cZ h_p0 h_p2 ad_p0 n_p2 p0_places p0_steps p0_pastFirst p0_past p0_goings p0_rowSize p0_ways p0_hasField p0_fieldSize p0_faultNow p0_hasTree p0_treeSize p0_weightCount p0_roundCount p0_setCount p0_closes p0_needs p0_takes p2) sz)) (q_X10_mayIn dC dI cI cJ cZ h_p0 h_p2 ad_p0 n_p2 p0_places p0_steps p0_pastFirst p0_past p0_goings p0_rowSize p0_ways p0_hasField p0_fieldSize p0_faultNow p0_hasTree p0_treeSize p0_weightCount p0_roundCount p0_setCount p0_closes p0_needs p0_takes p2 post (va_A (wld_X10_mayIn cI cJ cZ h_p0 h_p2 ad_p0 n_p2 p0_places p0_steps p0_pastFirst p0_past p0_goings p0_rowSize p0_ways p0_hasField p0_fieldSize p0_faultNow p0_hasTree p0_treeSize p0_weightCount p0_roundCount p0_setCount p0_closes p0_needs p0_takes p2) sz)) 0 0 (va_A (wld_X10_mayIn cI cJ cZ h_p0 h_p2 ad_p0 n_p2 p0_places p0_steps p0_pastFirst p0_past p0_goings p0_rowSize p0_ways p0_hasField p0_fieldSize p0_faultNow p0_hasTree p0_treeSize p0_weightCount p0_roundCount p0_setCount p0_closes p0_needs p0_takes p2) sz) := by
  refine x_met (cc := cX10_mayIn) (maxL := 6) (ret := (some .boolean)) (own := RX10) (Qc := fun A => (q_X10_mayIn dC dI cI cJ cZ h_p0 h_p2 ad_p0 n_p2 p0_places p0_steps p0_pastFirst p0_past p0_goings p0_rowSize p0_ways p0_hasField p0_fieldSize p0_faultNow p0_hasTree p0_treeSize p0_weightCount p0_roundCount p0_setCount p0_closes p0_needs p0_takes p2 post A)) (by decide) rfl rfl (Nat.le_of_ble_eq_true rfl) ?_
  intro p e s m args below meth c A ls E0 hP hD hS hl
  obtain ⟨hx, hb, hr, hml, hown, hts, hlocks, hK, hA, n1, n2⟩ := id E0
  have iX10 : ∀ w ∈ u_ws RX10 TX10 50, w ∈ wsX10_mayIn := fun w h => List.mem_cons_of_mem _ (List.mem_append_right _ h)
  have hS0 := hS
  have hl : lv_has ls 6 [(0, .ref h_p0), (1, .int a1), (2, .ref h_p2), (3, .int a3)] := hl
  unfold w_X10_mayIn at hw
  obtain ⟨H, hH⟩ : ∃ H, H = s.heap := ⟨_, rfl⟩
  have hS : va_S A s.heap H [] := by rw [hH]; exact hS
  have hP : va_P (dC, dI) vwCl (wld_X10_mayIn cI cJ cZ h_p0 h_p2 ad_p0 n_p2 p0_places p0_steps p0_pastFirst p0_past p0_goings p0_rowSize p0_ways p0_hasField p0_fieldSize p0_faultNow p0_hasTree p0_treeSize p0_weightCount p0_roundCount p0_setCount p0_closes p0_needs p0_takes p2) H := by rw [hH]; exact hP
  suffices hG : W p l e ({ frames := 1, cells := 0, slots := 0, locals := 26 }) s m args below meth c H [] 0 0 (MQ below (q_X10_mayIn dC dI cI cJ cZ h_p0 h_p2 ad_p0 n_p2 p0_places p0_steps p0_pastFirst p0_past p0_goings p0_rowSize p0_ways p0_hasField p0_fieldSize p0_faultNow p0_hasTree p0_treeSize p0_weightCount p0_roundCount p0_setCount p0_closes p0_needs p0_takes p2 post A) args s 0 0 A) (F0 m 0 ls []) by rw [hH] at hG; exact hG
  clear hH
  refine lv_iconst (v := 1) hx hb dX10_mayIn_0 (by decide) ?_
  refine lv_istore (lv' := [(4, .int (1 : Int32)), (0, .ref h_p0), (1, .int a1), (2, .ref h_p2), (3, .int a3)]) hx hb dX10_mayIn_1 hl (by decide) rfl (fun ls hl => ?_)
  refine lv_iconst (v := 0) hx hb dX10_mayIn_3 (by decide) ?_
  refine lv_istore (lv' := [(5, .int (0 : Int32)), (4, .int (1 : Int32)), (0, .ref h_p0), (1, .int a1), (2, .ref h_p2), (3, .int a3)]) hx hb dX10_mayIn_4 hl (by decide) rfl (fun ls hl => ?_)
  obtain ⟨n11, hw⟩ := hw
  refine c_X10_mayIn_L6 (l := l)  E0 ?_ n11 _ _ hw _ _ _ hP hD hS (lv_sub hl [2, 3, 4, 5, 1, 0] rfl)
  · intro v12 v13 H locs ls hw hP hD hS hl
    have hP : va_P (dC, dI) vwCl (wld_X10_mayIn cI cJ cZ h_p0 h_p2 ad_p0 n_p2 p0_places p0_steps p0_pastFirst p0_past p0_goings p0_rowSize p0_ways p0_hasField p0_fieldSize p0_faultNow p0_hasTree p0_treeSize p0_weightCount p0_roundCount p0_setCount p0_closes p0_needs p0_takes p2) H := hP
    have hD : va_D A (wld_X10_mayIn cI cJ cZ h_p0 h_p2 ad_p0 n_p2 p0_places p0_steps p0_pastFirst p0_past p0_goings p0_rowSize p0_ways p0_hasField p0_fieldSize p0_faultNow p0_hasTree p0_treeSize p0_weightCount p0_roundCount p0_setCount p0_closes p0_needs p0_takes p2) := hD
    refine lv_iload hx hb dX10_mayIn_45 (lv_at hl 0 rfl) ?_
    have hv := hw.1
    have hw := hw.2
    exact x_zret (w1 := fun (u : Unit) => (wld_X10_mayIn cI cJ cZ h_p0 h_p2 ad_p0 n_p2 p0_places p0_steps p0_pastFirst p0_past p0_goings p0_rowSize p0_ways p0_hasField p0_fieldSize p0_faultNow p0_hasTree p0_treeSize p0_weightCount p0_roundCount p0_setCount p0_closes p0_needs p0_takes p2)) hx hb hr hlocks hv () hw hP hD hS dX10_mayIn_47
abbrev wld_X10_hasWanted (cI cJ cZ : ClassId) (h_p0 : Nat) (ad_p0 : Nat → Nat) (p0_places : Int32) (p0_steps : Int32) (p0_pastFirst : Int32) (p0_past : Int32) (p0_goings : Int32) (p0_rowSize : Int32) (p0_ways : Int32) (p0_hasField : Int32) (p0_fieldSize : Int32) (p0_faultNow : Int32) (p0_hasTree : Int32) (p0_treeSize : Int32) (p0_weightCount : Int32) (p0_roundCount : Int32) (p0_setCount : Int32) (p0_colour : Nat → Int32) (p0_has : Nat → Int32) (p0_takes : Nat → Int32) (p0_things : Nat → Int32) (p0_wants : Nat → Int32) : va_W := [(h_p0, .inr (10, [.int p0_places, .int p0_steps, .ref (ad_p0 2), .ref (ad_p0 3), .ref (ad_p0 4), .ref (ad_p0 5), .ref (ad_p0 6), .ref (ad_p0 7), .ref (ad_p0 8), .ref (ad_p0 9), .ref (ad_p0 10), .ref (ad_p0 11), .ref (ad_p0 12), .ref (ad_p0 13), .ref (ad_p0 14), .int p0_pastFirst, .int p0_past, .int p0_goings, .int p0_rowSize, .ref (ad_p0 19), .ref (ad_p0 20), .int p0_ways, .ref (ad_p0 22), .ref (ad_p0 23), .int p0_hasField, .int p0_fieldSize, .ref (ad_p0 26), .ref (ad_p0 27), .ref (ad_p0 28), .ref (ad_p0 29), .ref (ad_p0 30), .ref (ad_p0 31), .ref (ad_p0 32), .int p0_faultNow, .int p0_hasTree, .int p0_treeSize, .ref (ad_p0 36), .ref (ad_p0 37), .ref (ad_p0 38), .ref (ad_p0 39), .ref (ad_p0 40), .ref (ad_p0 41), .ref (ad_p0 42), .int p0_weightCount, .ref (ad_p0 44), .int p0_roundCount, .ref (ad_p0 46), .int p0_setCount, .ref (ad_p0 48), .ref (ad_p0 49)])), ((ad_p0 2), .inl (cI, 16, .inl p0_colour)), ((ad_p0 10), .inl (cI, 16, .inl p0_has)), ((ad_p0 4), .inl (cI, 256, .inl p0_takes)), ((ad_p0 11), .inl (cI, 320, .inl p0_things)), ((ad_p0 8), .inl (cI, 256, .inl p0_wants))]
abbrev q_X10_hasWanted (dC : Nat → ClassId) (dI : Nat → Nat → Nat) (cI cJ cZ : ClassId) (h_p0 : Nat) (ad_p0 : Nat → Nat) (p0_places : Int32) (p0_steps : Int32) (p0_pastFirst : Int32) (p0_past : Int32) (p0_goings : Int32) (p0_rowSize : Int32) (p0_ways : Int32) (p0_hasField : Int32) (p0_fieldSize : Int32) (p0_faultNow : Int32) (p0_hasTree : Int32) (p0_treeSize : Int32) (p0_weightCount : Int32) (p0_roundCount : Int32) (p0_setCount : Int32) (p0_colour : Nat → Int32) (p0_has : Nat → Int32) (p0_takes : Nat → Int32) (p0_things : Nat → Int32) (p0_wants : Nat → Int32) (post : Int32 → Prop) (A : Nat → Prop) : Array Value → State → Outcome → State → Prop := va_Qi (fun r (u : Unit) => post r ) (fun (u : Unit) t => xPost (dC, dI) A (wld_X10_hasWanted cI cJ cZ h_p0 ad_p0 p0_places p0_steps p0_pastFirst p0_past p0_goings p0_rowSize p0_ways p0_hasField p0_fieldSize p0_faultNow p0_hasTree p0_treeSize p0_weightCount p0_roundCount p0_setCount p0_colour p0_has p0_takes p0_things p0_wants) t) A
def w_X10_hasWanted_L18b (v1 : Int32) (v2 : Int32) (v3 : Int32) (p0_places : Int32) (p0_colour : Nat → Int32) (p0_has : Nat → Int32) (p0_takes : Nat → Int32) (p0_things : Nat → Int32) (p0_wants : Nat → Int32) (post : Int32 → Prop) (K : (Int32) → (Int32) → Prop) (rec : (Int32) → (Int32) → Prop) (v4 : Int32) (v5 : Int32) : Prop :=
    vp_in v3 16 ∧
    ((p0_has v3.toNatClampNeg) ≤ v5 →
      K v4 v5) ∧
    (¬ (p0_has v3.toNatClampNeg) ≤ v5 →
      vp_in v3 16 ∧
      (¬ (p0_colour v3.toNatClampNeg) = (1 : Int32) →
        K v4 v5) ∧
      ((p0_colour v3.toNatClampNeg) = (1 : Int32) →
        vp_in (((20 : Int32) * v3) + v5) 320 ∧
        vp_in (((16 : Int32) * v1) + v3) 256 ∧
        w_X10_isOfKind (p0_things (((20 : Int32) * v3) + v5).toNatClampNeg) (p0_wants (((16 : Int32) * v1) + v3).toNatClampNeg) (fun r7 =>
        (r7 = 0 →
          ∀ x10 : Int32, x10 = (v4 + (0 : Int32)) →
          ∀ x11 : Int32, x11 = v5 + (1 : Int32) →
          rec x10 x11) ∧
        (¬ r7 = 0 →
          ∀ x12 : Int32, x12 = (v4 + (1 : Int32)) →
          ∀ x13 : Int32, x13 = v5 + (1 : Int32) →
          rec x12 x13))))
def w_X10_hasWanted_L18 (v1 : Int32) (v2 : Int32) (v3 : Int32) (p0_places : Int32) (p0_colour : Nat → Int32) (p0_has : Nat → Int32) (p0_takes : Nat → Int32) (p0_things : Nat → Int32) (p0_wants : Nat → Int32) (post : Int32 → Prop) (K : (Int32) → (Int32) → Prop) : Nat → (Int32) → (Int32) → Prop
  | 0, _, _ => False
  | n + 1, v4, v5 => w_X10_hasWanted_L18b v1 v2 v3 p0_places p0_colour p0_has p0_takes p0_things p0_wants post K (w_X10_hasWanted_L18 v1 v2 v3 p0_places p0_colour p0_has p0_takes p0_things p0_wants post K n) v4 v5
def w_X10_hasWanted_L4b (v1 : Int32) (p0_places : Int32) (p0_colour : Nat → Int32) (p0_has : Nat → Int32) (p0_takes : Nat → Int32) (p0_things : Nat → Int32) (p0_wants : Nat → Int32) (post : Int32 → Prop) (K : (Int32) → (Int32) → Prop) (rec : (Int32) → (Int32) → Prop) (v2 : Int32) (v3 : Int32) : Prop :=
    (p0_places ≤ v3 →
      K v2 v3) ∧
    (¬ p0_places ≤ v3 →
      ∃ n : Nat, w_X10_hasWanted_L18 v1 v2 v3 p0_places p0_colour p0_has p0_takes p0_things p0_wants post (fun v15 v16 =>
          (v2 = 0 →
            ∀ x19 : Int32, x19 = v3 + (1 : Int32) →
            rec (0 : Int32) x19) ∧
          (¬ v2 = 0 →
            vp_in v3 16 ∧
            ((p0_colour v3.toNatClampNeg) = 0 →
              ∀ x22 : Int32, x22 = v3 + (1 : Int32) →
              rec (1 : Int32) x22) ∧
            (¬ (p0_colour v3.toNatClampNeg) = 0 →
              vp_in (((16 : Int32) * v1) + v3) 256 ∧
              (v15 < (p0_takes (((16 : Int32) * v1) + v3).toNatClampNeg) →
                ∀ x25 : Int32, x25 = v3 + (1 : Int32) →
                rec (0 : Int32) x25) ∧
              (¬ v15 < (p0_takes (((16 : Int32) * v1) + v3).toNatClampNeg) →
                ∀ x26 : Int32, x26 = v3 + (1 : Int32) →
                rec (1 : Int32) x26)))) n (0 : Int32) (0 : Int32))
def w_X10_hasWanted_L4 (v1 : Int32) (p0_places : Int32) (p0_colour : Nat → Int32) (p0_has : Nat → Int32) (p0_takes : Nat → Int32) (p0_things : Nat → Int32) (p0_wants : Nat → Int32) (post : Int32 → Prop) (K : (Int32) → (Int32) → Prop) : Nat → (Int32) → (Int32) → Prop
  | 0, _, _ => False
  | n + 1, v2, v3 => w_X10_hasWanted_L4b v1 p0_places p0_colour p0_has p0_takes p0_things p0_wants post K (w_X10_hasWanted_L4 v1 p0_places p0_colour p0_has p0_takes p0_things p0_wants post K n) v2 v3
def w_X10_hasWanted (p0_places : Int32) (p0_colour : Nat → Int32) (p0_has : Nat → Int32) (p0_takes : Nat → Int32) (p0_things : Nat → Int32) (p0_wants : Nat → Int32) (a1 : Int32) (post : Int32 → Prop) : Prop :=
  ∃ n : Nat, w_X10_hasWanted_L4 a1 p0_places p0_colour p0_has p0_takes p0_things p0_wants post (fun v28 v29 =>
      v28 &&& 1 = v28 ∧
      (post v28)) n (1 : Int32) (0 : Int32)
set_option maxHeartbeats 4000000 in
set_option maxRecDepth 100000 in
theorem c_X10_hasWanted_L18 {p : Program} {l : Launch} {e : Env} {s : State} {m : MethodId} {args : Array Value} {below : List Frame} {meth : Method} {c : Code} {dC : Nat → ClassId} {dI : Nat → Nat → Nat} {A : Nat → Prop} {cI cJ cZ : ClassId} {h_p0 : Nat} {ad_p0 : Nat → Nat} {p0_places : Int32} {p0_steps : Int32} {p0_pastFirst : Int32} {p0_past : Int32} {p0_goings : Int32} {p0_rowSize : Int32} {p0_ways : Int32} {p0_hasField : Int32} {p0_fieldSize : Int32} {p0_faultNow : Int32} {p0_hasTree : Int32} {p0_treeSize : Int32} {p0_weightCount : Int32} {p0_roundCount : Int32} {p0_setCount : Int32} {p0_colour : Nat → Int32} {p0_has : Nat → Int32} {p0_takes : Nat → Int32} {p0_things : Nat → Int32} {p0_wants : Nat → Int32} {v1 : Int32} {v2 : Int32} {v3 : Int32}  {post : Int32 → Prop} {K : (Int32) → (Int32) → Prop} (E0 : xEnv p s m args meth c cX10_hasWanted (some .boolean) 6 RX10 wsX10_hasWanted (dC, dI) cI cJ cZ A) (hk : ∀ (v4 : Int32) (v5 : Int32) (H : Heap) (locs : List Loc) (ls : Array Slot), K v4 v5 → va_P (dC, dI) vwCl (wld_X10_hasWanted cI cJ cZ h_p0 ad_p0 p0_places p0_steps p0_pastFirst p0_past p0_goings p0_rowSize p0_ways p0_hasField p0_fieldSize p0_faultNow p0_hasTree p0_treeSize p0_weightCount p0_roundCount p0_setCount p0_colour p0_has p0_takes p0_things p0_wants) H → va_D A (wld_X10_hasWanted cI cJ cZ h_p0 ad_p0 p0_places p0_steps p0_pastFirst p0_past p0_goings p0_rowSize p0_ways p0_hasField p0_fieldSize p0_faultNow p0_hasTree p0_treeSize p0_weightCount p0_roundCount p0_setCount p0_colour p0_has p0_takes p0_things p0_wants) → va_S A s.heap H locs → lv_has ls 6 [(0, .ref h_p0), (1, .int v1), (2, .int v2), (3, .int v3), (4, .int v4)] → W p l e ({ frames := 1, cells := 0, slots := 0, locals := 21 }) s m args below meth c H locs 0 0 (MQ below (q_X10_hasWanted dC dI cI cJ cZ h_p0 ad_p0 p0_places p0_steps p0_pastFirst p0_past p0_goings p0_rowSize p0_ways p0_hasField p0_fieldSize p0_faultNow p0_hasTree p0_treeSize p0_weightCount p0_roundCount p0_setCount p0_colour p0_has p0_takes p0_things p0_wants post A) args s 0 0 A) (F0 m 84 ls [])) : ∀ (n : Nat) (v4 : Int32) (v5 : Int32), w_X10_hasWanted_L18 v1 v2 v3 p0_places p0_colour p0_has p0_takes p0_things p0_wants post K n v4 v5 → ∀ (H : Heap) (locs : List Loc) (ls : Array Slot), va_P (dC, dI) vwCl (wld_X10_hasWanted cI cJ cZ h_p0 ad_p0 p0_places p0_steps p0_pastFirst p0_past p0_goings p0_rowSize p0_ways p0_hasField p0_fieldSize p0_faultNow p0_hasTree p0_treeSize p0_weightCount p0_roundCount p0_setCount p0_colour p0_has p0_takes p0_things p0_wants) H → va_D A (wld_X10_hasWanted cI cJ cZ h_p0 ad_p0 p0_places p0_steps p0_pastFirst p0_past p0_goings p0_rowSize p0_ways p0_hasField p0_fieldSize p0_faultNow p0_hasTree p0_treeSize p0_weightCount p0_roundCount p0_setCount p0_colour p0_has p0_takes p0_things p0_wants) → va_S A s.heap H locs → lv_has ls 6 [(0, .ref h_p0), (1, .int v1), (2, .int v2), (3, .int v3), (4, .int v4), (5, .int v5)] → W p l e ({ frames := 1, cells := 0, slots := 0, locals := 21 }) s m args below meth c H locs 0 0 (MQ below (q_X10_hasWanted dC dI cI cJ cZ h_p0 ad_p0 p0_places p0_steps p0_pastFirst p0_past p0_goings p0_rowSize p0_ways p0_hasField p0_fieldSize p0_faultNow p0_hasTree p0_treeSize p0_weightCount p0_roundCount p0_setCount p0_colour p0_has p0_takes p0_things p0_wants post A) args s 0 0 A) (F0 m 18 ls []) := by
  obtain ⟨hx, hb, hr, hml, hown, hts, hlocks, hK, hA, n1, n2⟩ := id E0
  have iX10 : ∀ w ∈ u_ws RX10 TX10 50, w ∈ wsX10_hasWanted := fun w h => List.mem_cons_of_mem _ (List.mem_append_right _ h)
  intro n
  induction n with
  | zero => intro v4 v5 hw; exact hw.elim
  | succ n ih =>
    intro v4 v5 hw H locs ls hP hD hS hl
    have hw : w_X10_hasWanted_L18b v1 v2 v3 p0_places p0_colour p0_has p0_takes p0_things p0_wants post K (w_X10_hasWanted_L18 v1 v2 v3 p0_places p0_colour p0_has p0_takes p0_things p0_wants post K n) v4 v5 := hw
    unfold w_X10_hasWanted_L18b at hw
    refine lv_iload hx hb dX10_hasWanted_18 (lv_at hl 5 rfl) ?_
    refine lv_aload_n hx hb dX10_hasWanted_20 rfl (lv_at hl 0 rfl) ?_
    refine va_get (D := (dC, dI)) (ci := 10) (v := .ref (ad_p0 10)) (C := RX10) (T := TX10) (N := 50) hx hb hts iX10 hown hK hP 0 rfl rfl 10 (by decide) (hts (.fieldLink RX10 34 "NetHouseModel" "has" "[I") (by decide +kernel)) (fun _ h9 => h9) rfl dX10_hasWanted_21 ?_
    refine lv_iload_n hx hb dX10_hasWanted_24 rfl (lv_at hl 3 rfl) ?_
    refine va_iald hx hb hK hP 2 0 rfl rfl hw.1 dX10_hasWanted_25 ?_
    have hw := hw.2
    refine lv_icmp_ge (tgt := 84) hx hb dX10_hasWanted_26 (by decide) (fun c3 => ?_) (fun c4 => ?_)
    · have hw := hw.1 c3
      exact hk _ _ _ _ _ hw hP hD hS (lv_sub hl [0, 1, 2, 3, 4] rfl)
    · have hw := hw.2 c4
      refine lv_aload_n hx hb dX10_hasWanted_29 rfl (lv_at hl 0 rfl) ?_
      refine va_get (D := (dC, dI)) (ci := 10) (v := .ref (ad_p0 2)) (C := RX10) (T := TX10) (N := 50) hx hb hts iX10 hown hK hP 0 rfl rfl 2 (by decide) (hts (.fieldLink RX10 7 "NetHouseModel" "colour" "[I") (by decide +kernel)) (fun _ h9 => h9) rfl dX10_hasWanted_30 ?_
      refine lv_iload_n hx hb dX10_hasWanted_33 rfl (lv_at hl 3 rfl) ?_
      refine va_iald hx hb hK hP 1 0 rfl rfl hw.1 dX10_hasWanted_34 ?_
      have hw := hw.2
      refine lv_iconst (v := 1) hx hb dX10_hasWanted_35 (by decide) ?_
      refine lv_icmp_ne (tgt := 84) hx hb dX10_hasWanted_36 (by decide) (fun c5 => ?_) (fun c6 => ?_)
      · have hw := hw.1 c5
        exact hk _ _ _ _ _ hw hP hD hS (lv_sub hl [0, 1, 2, 3, 4] rfl)
      · have hw := hw.2 c6
        refine lv_iload hx hb dX10_hasWanted_39 (lv_at hl 4 rfl) ?_
        refine lv_aload_n hx hb dX10_hasWanted_41 rfl (lv_at hl 0 rfl) ?_
        refine va_get (D := (dC, dI)) (ci := 10) (v := .ref (ad_p0 11)) (C := RX10) (T := TX10) (N := 50) hx hb hts iX10 hown hK hP 0 rfl rfl 11 (by decide) (hts (.fieldLink RX10 37 "NetHouseModel" "things" "[I") (by decide +kernel)) (fun _ h9 => h9) rfl dX10_hasWanted_42 ?_
        refine lv_bipush (v := 20) hx hb dX10_hasWanted_45 (by decide) ?_
        refine lv_iload_n hx hb dX10_hasWanted_47 rfl (lv_at hl 3 rfl) ?_
        refine lv_imul hx hb dX10_hasWanted_48 ?_
        refine lv_iload hx hb dX10_hasWanted_49 (lv_at hl 5 rfl) ?_
        refine lv_iadd hx hb dX10_hasWanted_51 ?_
        refine va_iald hx hb hK hP 4 0 rfl rfl hw.1 dX10_hasWanted_52 ?_
        have hw := hw.2
        refine lv_aload_n hx hb dX10_hasWanted_53 rfl (lv_at hl 0 rfl) ?_
        refine va_get (D := (dC, dI)) (ci := 10) (v := .ref (ad_p0 8)) (C := RX10) (T := TX10) (N := 50) hx hb hts iX10 hown hK hP 0 rfl rfl 8 (by decide) (hts (.fieldLink RX10 28 "NetHouseModel" "wants" "[I") (by decide +kernel)) (fun _ h9 => h9) rfl dX10_hasWanted_54 ?_
        refine lv_bipush (v := 16) hx hb dX10_hasWanted_57 (by decide) ?_
        refine lv_iload_n hx hb dX10_hasWanted_59 rfl (lv_at hl 1 rfl) ?_
        refine lv_imul hx hb dX10_hasWanted_60 ?_
        refine lv_iload_n hx hb dX10_hasWanted_61 rfl (lv_at hl 3 rfl) ?_
        refine lv_iadd hx hb dX10_hasWanted_62 ?_
        refine va_iald hx hb hK hP 5 0 rfl rfl hw.1 dX10_hasWanted_63 ?_
        have hw := hw.2
        obtain ⟨hPc, hDc⟩ := x_sub (wc := (wld_X10_isOfKind cI cJ cZ )) hP hD [] (n := 6) rfl rfl (by decide +kernel)
        refine x_calli (ws' := fun (u : Unit) => (wld_X10_hasWanted cI cJ cZ h_p0 ad_p0 p0_places p0_steps p0_pastFirst p0_past p0_goings p0_rowSize p0_ways p0_hasField p0_fieldSize p0_faultNow p0_hasTree p0_treeSize p0_weightCount p0_roundCount p0_setCount p0_colour p0_has p0_takes p0_things p0_wants)) hP hD hS hA [] [0, 1, 2, 3, 4, 5] [0, 1, 2, 3, 4, 5] (n := 6) (k := 0) rfl (fun _ => rfl) rfl (by decide +kernel) (fun _ => rfl) (va_runS (As := [.int (p0_things (((20 : Int32) * v3) + v5).toNatClampNeg), .int (p0_wants (((16 : Int32) * v1) + v3).toNatClampNeg)]) (rest := [.int v4]) ⟨hx, hb, hml, hown, hts⟩ (c_X10_isOfKind (l := l) (dC := dC) (dI := dI) (cI := cI) (cJ := cJ) (cZ := cZ) (sz := H.size) hw) (va_cwS 2 hts gX10_hasWanted_X10_isOfKind rfl rfl rfl (by decide +kernel) ⟨Nat.le_of_ble_eq_true rfl, Nat.le_of_ble_eq_true rfl⟩) ⟨xPre_blind, xPre_at hK hPc hDc n1 n2⟩ rfl rfl hl.1 rfl (lv_room (Nat.le_of_ble_eq_true rfl)) dX10_hasWanted_64 ⟨Nat.zero_le _, Nat.zero_le _⟩) (fun r7 u H locs hw hP hD hS => ?_)
        try dsimp only at hw
        have hP : va_P (dC, dI) vwCl (wld_X10_hasWanted cI cJ cZ h_p0 ad_p0 p0_places p0_steps p0_pastFirst p0_past p0_goings p0_rowSize p0_ways p0_hasField p0_fieldSize p0_faultNow p0_hasTree p0_treeSize p0_weightCount p0_roundCount p0_setCount p0_colour p0_has p0_takes p0_things p0_wants) H := hP
        have hD : va_D A (wld_X10_hasWanted cI cJ cZ h_p0 ad_p0 p0_places p0_steps p0_pastFirst p0_past p0_goings p0_rowSize p0_ways p0_hasField p0_fieldSize p0_faultNow p0_hasTree p0_treeSize p0_weightCount p0_roundCount p0_setCount p0_colour p0_has p0_takes p0_things p0_wants) := hD
        refine lv_if_eq (tgt := 74) hx hb dX10_hasWanted_67 (by decide) (fun c8 => ?_) (fun c9 => ?_)
        · have hw := hw.1 c8
          refine lv_iconst (v := 0) hx hb dX10_hasWanted_74 (by decide) ?_
          refine lv_iadd hx hb dX10_hasWanted_75 ?_
          refine lv_topi (fun x10 ex10 => ?_)
          have hw := hw x10 ex10
          refine lv_istore (lv' := [(4, .int x10), (0, .ref h_p0), (1, .int v1), (2, .int v2), (3, .int v3), (5, .int v5)]) hx hb dX10_hasWanted_76 hl (by decide) rfl (fun ls hl => ?_)
          obtain ⟨x11, ex11⟩ : ∃ y : Int32, y = v5 + (1 : Int32) := ⟨_, rfl⟩
          have hw := hw x11 ex11
          refine lv_iinc (v := x11) (lv' := [(5, .int x11), (4, .int x10), (0, .ref h_p0), (1, .int v1), (2, .int v2), (3, .int v3)]) hx hb dX10_hasWanted_78 hl (k := 5) rfl (by rw [ex11]; rfl) (by decide) rfl (fun ls hl => ?_)
          refine lv_goto (tgt := 18) hx hb dX10_hasWanted_81 (by decide) ?_
          exact ih _ _ hw _ _ _ hP hD hS (lv_sub hl [2, 3, 4, 5, 1, 0] rfl)
        · have hw := hw.2 c9
          refine lv_iconst (v := 1) hx hb dX10_hasWanted_70 (by decide) ?_
          refine lv_goto (tgt := 75) hx hb dX10_hasWanted_71 (by decide) ?_
          refine lv_iadd hx hb dX10_hasWanted_75 ?_
          refine lv_topi (fun x12 ex12 => ?_)
          have hw := hw x12 ex12
          refine lv_istore (lv' := [(4, .int x12), (0, .ref h_p0), (1, .int v1), (2, .int v2), (3, .int v3), (5, .int v5)]) hx hb dX10_hasWanted_76 hl (by decide) rfl (fun ls hl => ?_)
          obtain ⟨x13, ex13⟩ : ∃ y : Int32, y = v5 + (1 : Int32) := ⟨_, rfl⟩
          have hw := hw x13 ex13
          refine lv_iinc (v := x13) (lv' := [(5, .int x13), (4, .int x12), (0, .ref h_p0), (1, .int v1), (2, .int v2), (3, .int v3)]) hx hb dX10_hasWanted_78 hl (k := 5) rfl (by rw [ex13]; rfl) (by decide) rfl (fun ls hl => ?_)
          refine lv_goto (tgt := 18) hx hb dX10_hasWanted_81 (by decide) ?_
          exact ih _ _ hw _ _ _ hP hD hS (lv_sub hl [2, 3, 4, 5, 1, 0] rfl)
set_option maxHeartbeats 4000000 in
set_option maxRecDepth 100000 in
theorem c_X10_hasWanted_L4 {p : Program} {l : Launch} {e : Env} {s : State} {m : MethodId} {args : Array Value} {below : List Frame} {meth : Method} {c : Code} {dC : Nat → ClassId} {dI : Nat → Nat → Nat} {A : Nat → Prop} {cI cJ cZ : ClassId} {h_p0 : Nat} {ad_p0 : Nat → Nat} {p0_places : Int32} {p0_steps : Int32} {p0_pastFirst : Int32} {p0_past : Int32} {p0_goings : Int32} {p0_rowSize : Int32} {p0_ways : Int32} {p0_hasField : Int32} {p0_fieldSize : Int32} {p0_faultNow : Int32} {p0_hasTree : Int32} {p0_treeSize : Int32} {p0_weightCount : Int32} {p0_roundCount : Int32} {p0_setCount : Int32} {p0_colour : Nat → Int32} {p0_has : Nat → Int32} {p0_takes : Nat → Int32} {p0_things : Nat → Int32} {p0_wants : Nat → Int32} {v1 : Int32}  {post : Int32 → Prop} {K : (Int32) → (Int32) → Prop} (E0 : xEnv p s m args meth c cX10_hasWanted (some .boolean) 6 RX10 wsX10_hasWanted (dC, dI) cI cJ cZ A) (hk : ∀ (v2 : Int32) (v3 : Int32) (H : Heap) (locs : List Loc) (ls : Array Slot), K v2 v3 → va_P (dC, dI) vwCl (wld_X10_hasWanted cI cJ cZ h_p0 ad_p0 p0_places p0_steps p0_pastFirst p0_past p0_goings p0_rowSize p0_ways p0_hasField p0_fieldSize p0_faultNow p0_hasTree p0_treeSize p0_weightCount p0_roundCount p0_setCount p0_colour p0_has p0_takes p0_things p0_wants) H → va_D A (wld_X10_hasWanted cI cJ cZ h_p0 ad_p0 p0_places p0_steps p0_pastFirst p0_past p0_goings p0_rowSize p0_ways p0_hasField p0_fieldSize p0_faultNow p0_hasTree p0_treeSize p0_weightCount p0_roundCount p0_setCount p0_colour p0_has p0_takes p0_things p0_wants) → va_S A s.heap H locs → lv_has ls 6 [(2, .int v2)] → W p l e ({ frames := 1, cells := 0, slots := 0, locals := 21 }) s m args below meth c H locs 0 0 (MQ below (q_X10_hasWanted dC dI cI cJ cZ h_p0 ad_p0 p0_places p0_steps p0_pastFirst p0_past p0_goings p0_rowSize p0_ways p0_hasField p0_fieldSize p0_faultNow p0_hasTree p0_treeSize p0_weightCount p0_roundCount p0_setCount p0_colour p0_has p0_takes p0_things p0_wants post A) args s 0 0 A) (F0 m 125 ls [])) : ∀ (n : Nat) (v2 : Int32) (v3 : Int32), w_X10_hasWanted_L4 v1 p0_places p0_colour p0_has p0_takes p0_things p0_wants post K n v2 v3 → ∀ (H : Heap) (locs : List Loc) (ls : Array Slot), va_P (dC, dI) vwCl (wld_X10_hasWanted cI cJ cZ h_p0 ad_p0 p0_places p0_steps p0_pastFirst p0_past p0_goings p0_rowSize p0_ways p0_hasField p0_fieldSize p0_faultNow p0_hasTree p0_treeSize p0_weightCount p0_roundCount p0_setCount p0_colour p0_has p0_takes p0_things p0_wants) H → va_D A (wld_X10_hasWanted cI cJ cZ h_p0 ad_p0 p0_places p0_steps p0_pastFirst p0_past p0_goings p0_rowSize p0_ways p0_hasField p0_fieldSize p0_faultNow p0_hasTree p0_treeSize p0_weightCount p0_roundCount p0_setCount p0_colour p0_has p0_takes p0_things p0_wants) → va_S A s.heap H locs → lv_has ls 6 [(0, .ref h_p0), (1, .int v1), (2, .int v2), (3, .int v3)] → W p l e ({ frames := 1, cells := 0, slots := 0, locals := 21 }) s m args below meth c H locs 0 0 (MQ below (q_X10_hasWanted dC dI cI cJ cZ h_p0 ad_p0 p0_places p0_steps p0_pastFirst p0_past p0_goings p0_rowSize p0_ways p0_hasField p0_fieldSize p0_faultNow p0_hasTree p0_treeSize p0_weightCount p0_roundCount p0_setCount p0_colour p0_has p0_takes p0_things p0_wants post A) args s 0 0 A) (F0 m 4 ls []) := by
  obtain ⟨hx, hb, hr, hml, hown, hts, hlocks, hK, hA, n1, n2⟩ := id E0
  have iX10 : ∀ w ∈ u_ws RX10 TX10 50, w ∈ wsX10_hasWanted := fun w h => List.mem_cons_of_mem _ (List.mem_append_right _ h)
  intro n
  induction n with
  | zero => intro v2 v3 hw; exact hw.elim
  | succ n ih =>
    intro v2 v3 hw H locs ls hP hD hS hl
    have hw : w_X10_hasWanted_L4b v1 p0_places p0_colour p0_has p0_takes p0_things p0_wants post K (w_X10_hasWanted_L4 v1 p0_places p0_colour p0_has p0_takes p0_things p0_wants post K n) v2 v3 := hw
    unfold w_X10_hasWanted_L4b at hw
    refine lv_iload_n hx hb dX10_hasWanted_4 rfl (lv_at hl 3 rfl) ?_
    refine lv_aload_n hx hb dX10_hasWanted_5 rfl (lv_at hl 0 rfl) ?_
    refine va_get (D := (dC, dI)) (ci := 10) (v := .int p0_places) (C := RX10) (T := TX10) (N := 50) hx hb hts iX10 hown hK hP 0 rfl rfl 0 (by decide) (hts (.fieldLink RX10 127 "NetHouseModel" "places" "I") (by decide +kernel)) (fun _ h9 => h9) rfl dX10_hasWanted_6 ?_
    refine lv_icmp_ge (tgt := 125) hx hb dX10_hasWanted_9 (by decide) (fun c1 => ?_) (fun c2 => ?_)
    · have hw := hw.1 c1
      exact hk _ _ _ _ _ hw hP hD hS (lv_sub hl [2] rfl)
    · have hw := hw.2 c2
      refine lv_iconst (v := 0) hx hb dX10_hasWanted_12 (by decide) ?_
      refine lv_istore (lv' := [(4, .int (0 : Int32)), (0, .ref h_p0), (1, .int v1), (2, .int v2), (3, .int v3)]) hx hb dX10_hasWanted_13 hl (by decide) rfl (fun ls hl => ?_)
      refine lv_iconst (v := 0) hx hb dX10_hasWanted_15 (by decide) ?_
      refine lv_istore (lv' := [(5, .int (0 : Int32)), (4, .int (0 : Int32)), (0, .ref h_p0), (1, .int v1), (2, .int v2), (3, .int v3)]) hx hb dX10_hasWanted_16 hl (by decide) rfl (fun ls hl => ?_)
      obtain ⟨n14, hw⟩ := hw
      refine c_X10_hasWanted_L18 (l := l)  E0 ?_ n14 _ _ hw _ _ _ hP hD hS (lv_sub hl [2, 3, 4, 5, 1, 0] rfl)
      · intro v15 v16 H locs ls hw hP hD hS hl
        have hP : va_P (dC, dI) vwCl (wld_X10_hasWanted cI cJ cZ h_p0 ad_p0 p0_places p0_steps p0_pastFirst p0_past p0_goings p0_rowSize p0_ways p0_hasField p0_fieldSize p0_faultNow p0_hasTree p0_treeSize p0_weightCount p0_roundCount p0_setCount p0_colour p0_has p0_takes p0_things p0_wants) H := hP
        have hD : va_D A (wld_X10_hasWanted cI cJ cZ h_p0 ad_p0 p0_places p0_steps p0_pastFirst p0_past p0_goings p0_rowSize p0_ways p0_hasField p0_fieldSize p0_faultNow p0_hasTree p0_treeSize p0_weightCount p0_roundCount p0_setCount p0_colour p0_has p0_takes p0_things p0_wants) := hD
        refine lv_iload_n hx hb dX10_hasWanted_84 rfl (lv_at hl 2 rfl) ?_
        refine lv_if_eq (tgt := 117) hx hb dX10_hasWanted_85 (by decide) (fun c17 => ?_) (fun c18 => ?_)
        · have hw := hw.1 c17
          refine lv_iconst (v := 0) hx hb dX10_hasWanted_117 (by decide) ?_
          refine lv_istore_n (lv' := [(2, .int (0 : Int32)), (0, .ref h_p0), (1, .int v1), (3, .int v3), (4, .int v15)]) hx hb dX10_hasWanted_118 rfl hl (by decide) rfl (fun ls hl => ?_)
          obtain ⟨x19, ex19⟩ : ∃ y : Int32, y = v3 + (1 : Int32) := ⟨_, rfl⟩
          have hw := hw x19 ex19
          refine lv_iinc (v := x19) (lv' := [(3, .int x19), (2, .int (0 : Int32)), (0, .ref h_p0), (1, .int v1), (4, .int v15)]) hx hb dX10_hasWanted_119 hl (k := 3) rfl (by rw [ex19]; rfl) (by decide) rfl (fun ls hl => ?_)
          refine lv_goto (tgt := 4) hx hb dX10_hasWanted_122 (by decide) ?_
          exact ih _ _ hw _ _ _ hP hD hS (lv_sub hl [2, 3, 1, 0] rfl)
        · have hw := hw.2 c18
          refine lv_aload_n hx hb dX10_hasWanted_88 rfl (lv_at hl 0 rfl) ?_
          refine va_get (D := (dC, dI)) (ci := 10) (v := .ref (ad_p0 2)) (C := RX10) (T := TX10) (N := 50) hx hb hts iX10 hown hK hP 0 rfl rfl 2 (by decide) (hts (.fieldLink RX10 7 "NetHouseModel" "colour" "[I") (by decide +kernel)) (fun _ h9 => h9) rfl dX10_hasWanted_89 ?_
          refine lv_iload_n hx hb dX10_hasWanted_92 rfl (lv_at hl 3 rfl) ?_
          refine va_iald hx hb hK hP 1 0 rfl rfl hw.1 dX10_hasWanted_93 ?_
          have hw := hw.2
          refine lv_if_eq (tgt := 113) hx hb dX10_hasWanted_94 (by decide) (fun c20 => ?_) (fun c21 => ?_)
          · have hw := hw.1 c20
            refine lv_iconst (v := 1) hx hb dX10_hasWanted_113 (by decide) ?_
            refine lv_goto (tgt := 118) hx hb dX10_hasWanted_114 (by decide) ?_
            refine lv_istore_n (lv' := [(2, .int (1 : Int32)), (0, .ref h_p0), (1, .int v1), (3, .int v3), (4, .int v15)]) hx hb dX10_hasWanted_118 rfl hl (by decide) rfl (fun ls hl => ?_)
            obtain ⟨x22, ex22⟩ : ∃ y : Int32, y = v3 + (1 : Int32) := ⟨_, rfl⟩
            have hw := hw x22 ex22
            refine lv_iinc (v := x22) (lv' := [(3, .int x22), (2, .int (1 : Int32)), (0, .ref h_p0), (1, .int v1), (4, .int v15)]) hx hb dX10_hasWanted_119 hl (k := 3) rfl (by rw [ex22]; rfl) (by decide) rfl (fun ls hl => ?_)
            refine lv_goto (tgt := 4) hx hb dX10_hasWanted_122 (by decide) ?_
            exact ih _ _ hw _ _ _ hP hD hS (lv_sub hl [2, 3, 1, 0] rfl)
          · have hw := hw.2 c21
            refine lv_iload hx hb dX10_hasWanted_97 (lv_at hl 4 rfl) ?_
            refine lv_aload_n hx hb dX10_hasWanted_99 rfl (lv_at hl 0 rfl) ?_
            refine va_get (D := (dC, dI)) (ci := 10) (v := .ref (ad_p0 4)) (C := RX10) (T := TX10) (N := 50) hx hb hts iX10 hown hK hP 0 rfl rfl 4 (by decide) (hts (.fieldLink RX10 16 "NetHouseModel" "takes" "[I") (by decide +kernel)) (fun _ h9 => h9) rfl dX10_hasWanted_100 ?_
            refine lv_bipush (v := 16) hx hb dX10_hasWanted_103 (by decide) ?_
            refine lv_iload_n hx hb dX10_hasWanted_105 rfl (lv_at hl 1 rfl) ?_
            refine lv_imul hx hb dX10_hasWanted_106 ?_
            refine lv_iload_n hx hb dX10_hasWanted_107 rfl (lv_at hl 3 rfl) ?_
            refine lv_iadd hx hb dX10_hasWanted_108 ?_
            refine va_iald hx hb hK hP 3 0 rfl rfl hw.1 dX10_hasWanted_109 ?_
            have hw := hw.2
            refine lv_icmp_lt (tgt := 117) hx hb dX10_hasWanted_110 (by decide) (fun c23 => ?_) (fun c24 => ?_)
            · have hw := hw.1 c23
              refine lv_iconst (v := 0) hx hb dX10_hasWanted_117 (by decide) ?_
              refine lv_istore_n (lv' := [(2, .int (0 : Int32)), (0, .ref h_p0), (1, .int v1), (3, .int v3), (4, .int v15)]) hx hb dX10_hasWanted_118 rfl hl (by decide) rfl (fun ls hl => ?_)
              obtain ⟨x25, ex25⟩ : ∃ y : Int32, y = v3 + (1 : Int32) := ⟨_, rfl⟩
              have hw := hw x25 ex25
              refine lv_iinc (v := x25) (lv' := [(3, .int x25), (2, .int (0 : Int32)), (0, .ref h_p0), (1, .int v1), (4, .int v15)]) hx hb dX10_hasWanted_119 hl (k := 3) rfl (by rw [ex25]; rfl) (by decide) rfl (fun ls hl => ?_)
              refine lv_goto (tgt := 4) hx hb dX10_hasWanted_122 (by decide) ?_
              exact ih _ _ hw _ _ _ hP hD hS (lv_sub hl [2, 3, 1, 0] rfl)
            · have hw := hw.2 c24
              refine lv_iconst (v := 1) hx hb dX10_hasWanted_113 (by decide) ?_
              refine lv_goto (tgt := 118) hx hb dX10_hasWanted_114 (by decide) ?_
              refine lv_istore_n (lv' := [(2, .int (1 : Int32)), (0, .ref h_p0), (1, .int v1), (3, .int v3), (4, .int v15)]) hx hb dX10_hasWanted_118 rfl hl (by decide) rfl (fun ls hl => ?_)
              obtain ⟨x26, ex26⟩ : ∃ y : Int32, y = v3 + (1 : Int32) := ⟨_, rfl⟩
              have hw := hw x26 ex26
              refine lv_iinc (v := x26) (lv' := [(3, .int x26), (2, .int (1 : Int32)), (0, .ref h_p0), (1, .int v1), (4, .int v15)]) hx hb dX10_hasWanted_119 hl (k := 3) rfl (by rw [ex26]; rfl) (by decide) rfl (fun ls hl => ?_)
              refine lv_goto (tgt := 4) hx hb dX10_hasWanted_122 (by decide) ?_
              exact ih _ _ hw _ _ _ hP hD hS (lv_sub hl [2, 3, 1, 0] rfl)
set_option maxHeartbeats 4000000 in
set_option maxRecDepth 100000 in
theorem c_X10_hasWanted {l : Launch} {dC : Nat → ClassId} {dI : Nat → Nat → Nat} {sz : Nat} {cI cJ cZ : ClassId} {h_p0 : Nat} {ad_p0 : Nat → Nat} {p0_places : Int32} {p0_steps : Int32} {p0_pastFirst : Int32} {p0_past : Int32} {p0_goings : Int32} {p0_rowSize : Int32} {p0_ways : Int32} {p0_hasField : Int32} {p0_fieldSize : Int32} {p0_faultNow : Int32} {p0_hasTree : Int32} {p0_treeSize : Int32} {p0_weightCount : Int32} {p0_roundCount : Int32} {p0_setCount : Int32} {p0_colour : Nat → Int32} {p0_has : Nat → Int32} {p0_takes : Nat → Int32} {p0_things : Nat → Int32} {p0_wants : Nat → Int32} {a1 : Int32} {post : Int32 → Prop} (hw : w_X10_hasWanted p0_places p0_colour p0_has p0_takes p0_things p0_wants a1 post) : Met l yX10_hasWanted wsX10_hasWanted ({ frames := 1, cells := 0, slots := 0, locals := 21 }) (va_Pc [.ref h_p0, .int a1] (xPre (dC, dI) cI cJ cZ (wld_X10_hasWanted cI cJ cZ h_p0 ad_p0 p0_places p0_steps p0_pastFirst p0_past p0_goings p0_rowSize p0_ways p0_hasField p0_fieldSize p0_faultNow p0_hasTree p0_treeSize p0_weightCount p0_roundCount p0_setCount p0_colour p0_has p0_takes p0_things p0_wants) sz)) (q_X10_hasWanted dC dI cI cJ cZ h_p0 ad_p0 p0_places p0_steps p0_pastFirst p0_past p0_goings p0_rowSize p0_ways p0_hasField p0_fieldSize p0_faultNow p0_hasTree p0_treeSize p0_weightCount p0_roundCount p0_setCount p0_colour p0_has p0_takes p0_things p0_wants post (va_A (wld_X10_hasWanted cI cJ cZ h_p0 ad_p0 p0_places p0_steps p0_pastFirst p0_past p0_goings p0_rowSize p0_ways p0_hasField p0_fieldSize p0_faultNow p0_hasTree p0_treeSize p0_weightCount p0_roundCount p0_setCount p0_colour p0_has p0_takes p0_things p0_wants) sz)) 0 0 (va_A (wld_X10_hasWanted cI cJ cZ h_p0 ad_p0 p0_places p0_steps p0_pastFirst p0_past p0_goings p0_rowSize p0_ways p0_hasField p0_fieldSize p0_faultNow p0_hasTree p0_treeSize p0_weightCount p0_roundCount p0_setCount p0_colour p0_has p0_takes p0_things p0_wants) sz) := by
  refine x_met (cc := cX10_hasWanted) (maxL := 6) (ret := (some .boolean)) (own := RX10) (Qc := fun A => (q_X10_hasWanted dC dI cI cJ cZ h_p0 ad_p0 p0_places p0_steps p0_pastFirst p0_past p0_goings p0_rowSize p0_ways p0_hasField p0_fieldSize p0_faultNow p0_hasTree p0_treeSize p0_weightCount p0_roundCount p0_setCount p0_colour p0_has p0_takes p0_things p0_wants post A)) (by decide) rfl rfl (Nat.le_of_ble_eq_true rfl) ?_
  intro p e s m args below meth c A ls E0 hP hD hS hl
  obtain ⟨hx, hb, hr, hml, hown, hts, hlocks, hK, hA, n1, n2⟩ := id E0
  have iX10 : ∀ w ∈ u_ws RX10 TX10 50, w ∈ wsX10_hasWanted := fun w h => List.mem_cons_of_mem _ (List.mem_append_right _ h)
  have hS0 := hS
  have hl : lv_has ls 6 [(0, .ref h_p0), (1, .int a1)] := hl
  unfold w_X10_hasWanted at hw
  obtain ⟨H, hH⟩ : ∃ H, H = s.heap := ⟨_, rfl⟩
  have hS : va_S A s.heap H [] := by rw [hH]; exact hS
  have hP : va_P (dC, dI) vwCl (wld_X10_hasWanted cI cJ cZ h_p0 ad_p0 p0_places p0_steps p0_pastFirst p0_past p0_goings p0_rowSize p0_ways p0_hasField p0_fieldSize p0_faultNow p0_hasTree p0_treeSize p0_weightCount p0_roundCount p0_setCount p0_colour p0_has p0_takes p0_things p0_wants) H := by rw [hH]; exact hP
  suffices hG : W p l e ({ frames := 1, cells := 0, slots := 0, locals := 21 }) s m args below meth c H [] 0 0 (MQ below (q_X10_hasWanted dC dI cI cJ cZ h_p0 ad_p0 p0_places p0_steps p0_pastFirst p0_past p0_goings p0_rowSize p0_ways p0_hasField p0_fieldSize p0_faultNow p0_hasTree p0_treeSize p0_weightCount p0_roundCount p0_setCount p0_colour p0_has p0_takes p0_things p0_wants post A) args s 0 0 A) (F0 m 0 ls []) by rw [hH] at hG; exact hG
  clear hH
  refine lv_iconst (v := 1) hx hb dX10_hasWanted_0 (by decide) ?_
  refine lv_istore_n (lv' := [(2, .int (1 : Int32)), (0, .ref h_p0), (1, .int a1)]) hx hb dX10_hasWanted_1 rfl hl (by decide) rfl (fun ls hl => ?_)
  refine lv_iconst (v := 0) hx hb dX10_hasWanted_2 (by decide) ?_
  refine lv_istore_n (lv' := [(3, .int (0 : Int32)), (2, .int (1 : Int32)), (0, .ref h_p0), (1, .int a1)]) hx hb dX10_hasWanted_3 rfl hl (by decide) rfl (fun ls hl => ?_)
  obtain ⟨n27, hw⟩ := hw
  refine c_X10_hasWanted_L4 (l := l)  E0 ?_ n27 _ _ hw _ _ _ hP hD hS (lv_sub hl [2, 3, 1, 0] rfl)
  · intro v28 v29 H locs ls hw hP hD hS hl
    have hP : va_P (dC, dI) vwCl (wld_X10_hasWanted cI cJ cZ h_p0 ad_p0 p0_places p0_steps p0_pastFirst p0_past p0_goings p0_rowSize p0_ways p0_hasField p0_fieldSize p0_faultNow p0_hasTree p0_treeSize p0_weightCount p0_roundCount p0_setCount p0_colour p0_has p0_takes p0_things p0_wants) H := hP
    have hD : va_D A (wld_X10_hasWanted cI cJ cZ h_p0 ad_p0 p0_places p0_steps p0_pastFirst p0_past p0_goings p0_rowSize p0_ways p0_hasField p0_fieldSize p0_faultNow p0_hasTree p0_treeSize p0_weightCount p0_roundCount p0_setCount p0_colour p0_has p0_takes p0_things p0_wants) := hD
    refine lv_iload_n hx hb dX10_hasWanted_125 rfl (lv_at hl 0 rfl) ?_
    have hv := hw.1
    have hw := hw.2
    exact x_zret (w1 := fun (u : Unit) => (wld_X10_hasWanted cI cJ cZ h_p0 ad_p0 p0_places p0_steps p0_pastFirst p0_past p0_goings p0_rowSize p0_ways p0_hasField p0_fieldSize p0_faultNow p0_hasTree p0_treeSize p0_weightCount p0_roundCount p0_setCount p0_colour p0_has p0_takes p0_things p0_wants)) hx hb hr hlocks hv () hw hP hD hS dX10_hasWanted_126
abbrev wld_X10_mayNow (cI cJ cZ : ClassId) (h_p0 : Nat) (ad_p0 : Nat → Nat) (p0_places : Int32) (p0_steps : Int32) (p0_pastFirst : Int32) (p0_past : Int32) (p0_goings : Int32) (p0_rowSize : Int32) (p0_ways : Int32) (p0_hasField : Int32) (p0_fieldSize : Int32) (p0_faultNow : Int32) (p0_hasTree : Int32) (p0_treeSize : Int32) (p0_weightCount : Int32) (p0_roundCount : Int32) (p0_setCount : Int32) (p0_closes : Nat → Int32) (p0_colour : Nat → Int32) (p0_has : Nat → Int32) (p0_needs : Nat → Int32) (p0_takes : Nat → Int32) (p0_things : Nat → Int32) (p0_wants : Nat → Int32) : va_W := [(h_p0, .inr (10, [.int p0_places, .int p0_steps, .ref (ad_p0 2), .ref (ad_p0 3), .ref (ad_p0 4), .ref (ad_p0 5), .ref (ad_p0 6), .ref (ad_p0 7), .ref (ad_p0 8), .ref (ad_p0 9), .ref (ad_p0 10), .ref (ad_p0 11), .ref (ad_p0 12), .ref (ad_p0 13), .ref (ad_p0 14), .int p0_pastFirst, .int p0_past, .int p0_goings, .int p0_rowSize, .ref (ad_p0 19), .ref (ad_p0 20), .int p0_ways, .ref (ad_p0 22), .ref (ad_p0 23), .int p0_hasField, .int p0_fieldSize, .ref (ad_p0 26), .ref (ad_p0 27), .ref (ad_p0 28), .ref (ad_p0 29), .ref (ad_p0 30), .ref (ad_p0 31), .ref (ad_p0 32), .int p0_faultNow, .int p0_hasTree, .int p0_treeSize, .ref (ad_p0 36), .ref (ad_p0 37), .ref (ad_p0 38), .ref (ad_p0 39), .ref (ad_p0 40), .ref (ad_p0 41), .ref (ad_p0 42), .int p0_weightCount, .ref (ad_p0 44), .int p0_roundCount, .ref (ad_p0 46), .int p0_setCount, .ref (ad_p0 48), .ref (ad_p0 49)])), ((ad_p0 7), .inl (cI, 256, .inl p0_closes)), ((ad_p0 2), .inl (cI, 16, .inl p0_colour)), ((ad_p0 10), .inl (cI, 16, .inl p0_has)), ((ad_p0 6), .inl (cI, 256, .inl p0_needs)), ((ad_p0 4), .inl (cI, 256, .inl p0_takes)), ((ad_p0 11), .inl (cI, 320, .inl p0_things)), ((ad_p0 8), .inl (cI, 256, .inl p0_wants))]
abbrev q_X10_mayNow (dC : Nat → ClassId) (dI : Nat → Nat → Nat) (cI cJ cZ : ClassId) (h_p0 : Nat) (ad_p0 : Nat → Nat) (p0_places : Int32) (p0_steps : Int32) (p0_pastFirst : Int32) (p0_past : Int32) (p0_goings : Int32) (p0_rowSize : Int32) (p0_ways : Int32) (p0_hasField : Int32) (p0_fieldSize : Int32) (p0_faultNow : Int32) (p0_hasTree : Int32) (p0_treeSize : Int32) (p0_weightCount : Int32) (p0_roundCount : Int32) (p0_setCount : Int32) (p0_closes : Nat → Int32) (p0_colour : Nat → Int32) (p0_has : Nat → Int32) (p0_needs : Nat → Int32) (p0_takes : Nat → Int32) (p0_things : Nat → Int32) (p0_wants : Nat → Int32) (post : Int32 → Prop) (A : Nat → Prop) : Array Value → State → Outcome → State → Prop := va_Qi (fun r (u : Unit) => post r ) (fun (u : Unit) t => xPost (dC, dI) A (wld_X10_mayNow cI cJ cZ h_p0 ad_p0 p0_places p0_steps p0_pastFirst p0_past p0_goings p0_rowSize p0_ways p0_hasField p0_fieldSize p0_faultNow p0_hasTree p0_treeSize p0_weightCount p0_roundCount p0_setCount p0_closes p0_colour p0_has p0_needs p0_takes p0_things p0_wants) t) A
def w_X10_mayNow (p0_places : Int32) (p0_closes : Nat → Int32) (p0_colour : Nat → Int32) (p0_has : Nat → Int32) (p0_needs : Nat → Int32) (p0_takes : Nat → Int32) (p0_things : Nat → Int32) (p0_wants : Nat → Int32) (a1 : Int32) (post : Int32 → Prop) : Prop :=
  w_X10_mayIn 16 p0_places p0_closes p0_needs p0_takes p0_has a1 (0 : Int32) (fun r1 =>
  (r1 = 0 →
    (post (0 : Int32))) ∧
  (¬ r1 = 0 →
    w_X10_hasWanted p0_places p0_colour p0_has p0_takes p0_things p0_wants a1 (fun r4 =>
    (r4 = 0 →
      (post (0 : Int32))) ∧
    (¬ r4 = 0 →
      (post (1 : Int32))))))
set_option maxHeartbeats 4000000 in
set_option maxRecDepth 100000 in
theorem c_X10_mayNow {l : Launch} {dC : Nat → ClassId} {dI : Nat → Nat → Nat} {sz : Nat} {cI cJ cZ : ClassId} {h_p0 : Nat} {ad_p0 : Nat → Nat} {p0_places : Int32} {p0_steps : Int32} {p0_pastFirst : Int32} {p0_past : Int32} {p0_goings : Int32} {p0_rowSize : Int32} {p0_ways : Int32} {p0_hasField : Int32} {p0_fieldSize : Int32} {p0_faultNow : Int32} {p0_hasTree : Int32} {p0_treeSize : Int32} {p0_weightCount : Int32} {p0_roundCount : Int32} {p0_setCount : Int32} {p0_closes : Nat → Int32} {p0_colour : Nat → Int32} {p0_has : Nat → Int32} {p0_needs : Nat → Int32} {p0_takes : Nat → Int32} {p0_things : Nat → Int32} {p0_wants : Nat → Int32} {a1 : Int32} {post : Int32 → Prop} (hw : w_X10_mayNow p0_places p0_closes p0_colour p0_has p0_needs p0_takes p0_things p0_wants a1 post) : Met l yX10_mayNow wsX10_mayNow ({ frames := 2, cells := 0, slots := 0, locals := 51 }) (va_Pc [.ref h_p0, .int a1] (xPre (dC, dI) cI cJ cZ (wld_X10_mayNow cI cJ cZ h_p0 ad_p0 p0_places p0_steps p0_pastFirst p0_past p0_goings p0_rowSize p0_ways p0_hasField p0_fieldSize p0_faultNow p0_hasTree p0_treeSize p0_weightCount p0_roundCount p0_setCount p0_closes p0_colour p0_has p0_needs p0_takes p0_things p0_wants) sz)) (q_X10_mayNow dC dI cI cJ cZ h_p0 ad_p0 p0_places p0_steps p0_pastFirst p0_past p0_goings p0_rowSize p0_ways p0_hasField p0_fieldSize p0_faultNow p0_hasTree p0_treeSize p0_weightCount p0_roundCount p0_setCount p0_closes p0_colour p0_has p0_needs p0_takes p0_things p0_wants post (va_A (wld_X10_mayNow cI cJ cZ h_p0 ad_p0 p0_places p0_steps p0_pastFirst p0_past p0_goings p0_rowSize p0_ways p0_hasField p0_fieldSize p0_faultNow p0_hasTree p0_treeSize p0_weightCount p0_roundCount p0_setCount p0_closes p0_colour p0_has p0_needs p0_takes p0_things p0_wants) sz)) 0 0 (va_A (wld_X10_mayNow cI cJ cZ h_p0 ad_p0 p0_places p0_steps p0_pastFirst p0_past p0_goings p0_rowSize p0_ways p0_hasField p0_fieldSize p0_faultNow p0_hasTree p0_treeSize p0_weightCount p0_roundCount p0_setCount p0_closes p0_colour p0_has p0_needs p0_takes p0_things p0_wants) sz) := by
  refine x_met (cc := cX10_mayNow) (maxL := 2) (ret := (some .boolean)) (own := RX10) (Qc := fun A => (q_X10_mayNow dC dI cI cJ cZ h_p0 ad_p0 p0_places p0_steps p0_pastFirst p0_past p0_goings p0_rowSize p0_ways p0_hasField p0_fieldSize p0_faultNow p0_hasTree p0_treeSize p0_weightCount p0_roundCount p0_setCount p0_closes p0_colour p0_has p0_needs p0_takes p0_things p0_wants post A)) (by decide) rfl rfl (Nat.le_of_ble_eq_true rfl) ?_
  intro p e s m args below meth c A ls E0 hP hD hS hl
  obtain ⟨hx, hb, hr, hml, hown, hts, hlocks, hK, hA, n1, n2⟩ := id E0
  have iX10 : ∀ w ∈ u_ws RX10 TX10 50, w ∈ wsX10_mayNow := fun w h => List.mem_cons_of_mem _ (List.mem_append_right _ h)
  have hS0 := hS
  have hl : lv_has ls 2 [(0, .ref h_p0), (1, .int a1)] := hl
  unfold w_X10_mayNow at hw
  obtain ⟨H, hH⟩ : ∃ H, H = s.heap := ⟨_, rfl⟩
  have hS : va_S A s.heap H [] := by rw [hH]; exact hS
  have hP : va_P (dC, dI) vwCl (wld_X10_mayNow cI cJ cZ h_p0 ad_p0 p0_places p0_steps p0_pastFirst p0_past p0_goings p0_rowSize p0_ways p0_hasField p0_fieldSize p0_faultNow p0_hasTree p0_treeSize p0_weightCount p0_roundCount p0_setCount p0_closes p0_colour p0_has p0_needs p0_takes p0_things p0_wants) H := by rw [hH]; exact hP
  suffices hG : W p l e ({ frames := 2, cells := 0, slots := 0, locals := 51 }) s m args below meth c H [] 0 0 (MQ below (q_X10_mayNow dC dI cI cJ cZ h_p0 ad_p0 p0_places p0_steps p0_pastFirst p0_past p0_goings p0_rowSize p0_ways p0_hasField p0_fieldSize p0_faultNow p0_hasTree p0_treeSize p0_weightCount p0_roundCount p0_setCount p0_closes p0_colour p0_has p0_needs p0_takes p0_things p0_wants post A) args s 0 0 A) (F0 m 0 ls []) by rw [hH] at hG; exact hG
  clear hH
  refine lv_aload_n hx hb dX10_mayNow_0 rfl (lv_at hl 0 rfl) ?_
  refine lv_iload_n hx hb dX10_mayNow_1 rfl (lv_at hl 1 rfl) ?_
  refine lv_aload_n hx hb dX10_mayNow_2 rfl (lv_at hl 0 rfl) ?_
  refine va_get (D := (dC, dI)) (ci := 10) (v := .ref (ad_p0 10)) (C := RX10) (T := TX10) (N := 50) hx hb hts iX10 hown hK hP 0 rfl rfl 10 (by decide) (hts (.fieldLink RX10 34 "NetHouseModel" "has" "[I") (by decide +kernel)) (fun _ h9 => h9) rfl dX10_mayNow_3 ?_
  refine lv_iconst (v := 0) hx hb dX10_mayNow_6 (by decide) ?_
  obtain ⟨hPc, hDc⟩ := x_sub (wc := (wld_X10_mayIn cI cJ cZ h_p0 (ad_p0 10) ad_p0 16 p0_places p0_steps p0_pastFirst p0_past p0_goings p0_rowSize p0_ways p0_hasField p0_fieldSize p0_faultNow p0_hasTree p0_treeSize p0_weightCount p0_roundCount p0_setCount p0_closes p0_needs p0_takes p0_has)) hP hD [0, 1, 4, 5, 3] (n := 8) rfl rfl (by decide +kernel)
  refine x_calli (ws' := fun (u : Unit) => (wld_X10_mayNow cI cJ cZ h_p0 ad_p0 p0_places p0_steps p0_pastFirst p0_past p0_goings p0_rowSize p0_ways p0_hasField p0_fieldSize p0_faultNow p0_hasTree p0_treeSize p0_weightCount p0_roundCount p0_setCount p0_closes p0_colour p0_has p0_needs p0_takes p0_things p0_wants)) hP hD hS hA [0, 1, 4, 5, 3] [2, 6, 7] [3, 4, 0, 7, 5, 6, 1, 2] (n := 8) (k := 5) rfl (fun _ => rfl) rfl (by decide +kernel) (fun _ => rfl) (va_runV (As := [.int a1, .ref (ad_p0 10), .int (0 : Int32)]) (rest := []) ⟨hx, hb, hml, hown, hts⟩ (c_X10_mayIn (l := l) (dC := dC) (dI := dI) (cI := cI) (cJ := cJ) (cZ := cZ) (sz := H.size) (h_p0 := h_p0) (h_p2 := (ad_p0 10)) (ad_p0 := ad_p0) (n_p2 := 16) (p0_places := p0_places) (p0_steps := p0_steps) (p0_pastFirst := p0_pastFirst) (p0_past := p0_past) (p0_goings := p0_goings) (p0_rowSize := p0_rowSize) (p0_ways := p0_ways) (p0_hasField := p0_hasField) (p0_fieldSize := p0_fieldSize) (p0_faultNow := p0_faultNow) (p0_hasTree := p0_hasTree) (p0_treeSize := p0_treeSize) (p0_weightCount := p0_weightCount) (p0_roundCount := p0_roundCount) (p0_setCount := p0_setCount) (p0_closes := p0_closes) (p0_needs := p0_needs) (p0_takes := p0_takes) (p2 := p0_has) hw) (cwV 3 hts gX10_mayNow_X10_mayIn rfl rfl rfl (by decide +kernel) ⟨Nat.le_of_ble_eq_true rfl, Nat.le_of_ble_eq_true rfl⟩) ⟨xPre_blind, va_recv hK hP (ci := 10) (q0 := 0) rfl rfl, xPre_at hK hPc hDc n1 n2⟩ rfl rfl hl.1 rfl (lv_room (Nat.le_of_ble_eq_true rfl)) dX10_mayNow_7 ⟨Nat.zero_le _, Nat.zero_le _⟩) (fun r1 u H locs hw hP hD hS => ?_)
  try dsimp only at hw
  have hP : va_P (dC, dI) vwCl (wld_X10_mayNow cI cJ cZ h_p0 ad_p0 p0_places p0_steps p0_pastFirst p0_past p0_goings p0_rowSize p0_ways p0_hasField p0_fieldSize p0_faultNow p0_hasTree p0_treeSize p0_weightCount p0_roundCount p0_setCount p0_closes p0_colour p0_has p0_needs p0_takes p0_things p0_wants) H := hP
  have hD : va_D A (wld_X10_mayNow cI cJ cZ h_p0 ad_p0 p0_places p0_steps p0_pastFirst p0_past p0_goings p0_rowSize p0_ways p0_hasField p0_fieldSize p0_faultNow p0_hasTree p0_treeSize p0_weightCount p0_roundCount p0_setCount p0_closes p0_colour p0_has p0_needs p0_takes p0_things p0_wants) := hD
  refine lv_if_eq (tgt := 25) hx hb dX10_mayNow_10 (by decide) (fun c2 => ?_) (fun c3 => ?_)
  · have hw := hw.1 c2
    refine lv_iconst (v := 0) hx hb dX10_mayNow_25 (by decide) ?_
    exact x_zret (w1 := fun (u : Unit) => (wld_X10_mayNow cI cJ cZ h_p0 ad_p0 p0_places p0_steps p0_pastFirst p0_past p0_goings p0_rowSize p0_ways p0_hasField p0_fieldSize p0_faultNow p0_hasTree p0_treeSize p0_weightCount p0_roundCount p0_setCount p0_closes p0_colour p0_has p0_needs p0_takes p0_things p0_wants)) hx hb hr hlocks (by decide) () hw hP hD hS dX10_mayNow_26
  · have hw := hw.2 c3
    refine lv_aload_n hx hb dX10_mayNow_13 rfl (lv_at hl 0 rfl) ?_
    refine lv_iload_n hx hb dX10_mayNow_14 rfl (lv_at hl 1 rfl) ?_
    obtain ⟨hPc, hDc⟩ := x_sub (wc := (wld_X10_hasWanted cI cJ cZ h_p0 ad_p0 p0_places p0_steps p0_pastFirst p0_past p0_goings p0_rowSize p0_ways p0_hasField p0_fieldSize p0_faultNow p0_hasTree p0_treeSize p0_weightCount p0_roundCount p0_setCount p0_colour p0_has p0_takes p0_things p0_wants)) hP hD [0, 2, 3, 5, 6, 7] (n := 8) rfl rfl (by decide +kernel)
    refine x_calli (ws' := fun (u : Unit) => (wld_X10_mayNow cI cJ cZ h_p0 ad_p0 p0_places p0_steps p0_pastFirst p0_past p0_goings p0_rowSize p0_ways p0_hasField p0_fieldSize p0_faultNow p0_hasTree p0_treeSize p0_weightCount p0_roundCount p0_setCount p0_closes p0_colour p0_has p0_needs p0_takes p0_things p0_wants)) hP hD hS hA [0, 2, 3, 5, 6, 7] [1, 4] [2, 0, 3, 4, 1, 5, 6, 7] (n := 8) (k := 6) rfl (fun _ => rfl) rfl (by decide +kernel) (fun _ => rfl) (va_runV (As := [.int a1]) (rest := []) ⟨hx, hb, hml, hown, hts⟩ (c_X10_hasWanted (l := l) (dC := dC) (dI := dI) (cI := cI) (cJ := cJ) (cZ := cZ) (sz := H.size) (h_p0 := h_p0) (ad_p0 := ad_p0) (p0_places := p0_places) (p0_steps := p0_steps) (p0_pastFirst := p0_pastFirst) (p0_past := p0_past) (p0_goings := p0_goings) (p0_rowSize := p0_rowSize) (p0_ways := p0_ways) (p0_hasField := p0_hasField) (p0_fieldSize := p0_fieldSize) (p0_faultNow := p0_faultNow) (p0_hasTree := p0_hasTree) (p0_treeSize := p0_treeSize) (p0_weightCount := p0_weightCount) (p0_roundCount := p0_roundCount) (p0_setCount := p0_setCount) (p0_colour := p0_colour) (p0_has := p0_has) (p0_takes := p0_takes) (p0_things := p0_things) (p0_wants := p0_wants) hw) (cwV 1 hts gX10_mayNow_X10_hasWanted rfl rfl rfl (by decide +kernel) ⟨Nat.le_of_ble_eq_true rfl, Nat.le_of_ble_eq_true rfl⟩) ⟨xPre_blind, va_recv hK hP (ci := 10) (q0 := 0) rfl rfl, xPre_at hK hPc hDc n1 n2⟩ rfl rfl hl.1 rfl (lv_room (Nat.le_of_ble_eq_true rfl)) dX10_mayNow_15 ⟨Nat.zero_le _, Nat.zero_le _⟩) (fun r4 u H locs hw hP hD hS => ?_)
    try dsimp only at hw
    have hP : va_P (dC, dI) vwCl (wld_X10_mayNow cI cJ cZ h_p0 ad_p0 p0_places p0_steps p0_pastFirst p0_past p0_goings p0_rowSize p0_ways p0_hasField p0_fieldSize p0_faultNow p0_hasTree p0_treeSize p0_weightCount p0_roundCount p0_setCount p0_closes p0_colour p0_has p0_needs p0_takes p0_things p0_wants) H := hP
    have hD : va_D A (wld_X10_mayNow cI cJ cZ h_p0 ad_p0 p0_places p0_steps p0_pastFirst p0_past p0_goings p0_rowSize p0_ways p0_hasField p0_fieldSize p0_faultNow p0_hasTree p0_treeSize p0_weightCount p0_roundCount p0_setCount p0_closes p0_colour p0_has p0_needs p0_takes p0_things p0_wants) := hD
    refine lv_if_eq (tgt := 25) hx hb dX10_mayNow_18 (by decide) (fun c5 => ?_) (fun c6 => ?_)
    · have hw := hw.1 c5
      refine lv_iconst (v := 0) hx hb dX10_mayNow_25 (by decide) ?_
      exact x_zret (w1 := fun (u : Unit) => (wld_X10_mayNow cI cJ cZ h_p0 ad_p0 p0_places p0_steps p0_pastFirst p0_past p0_goings p0_rowSize p0_ways p0_hasField p0_fieldSize p0_faultNow p0_hasTree p0_treeSize p0_weightCount p0_roundCount p0_setCount p0_closes p0_colour p0_has p0_needs p0_takes p0_things p0_wants)) hx hb hr hlocks (by decide) () hw hP hD hS dX10_mayNow_26
    · have hw := hw.2 c6
      refine lv_iconst (v := 1) hx hb dX10_mayNow_21 (by decide) ?_
      refine lv_goto (tgt := 26) hx hb dX10_mayNow_22 (by decide) ?_
      exact x_zret (w1 := fun (u : Unit) => (wld_X10_mayNow cI cJ cZ h_p0 ad_p0 p0_places p0_steps p0_pastFirst p0_past p0_goings p0_rowSize p0_ways p0_hasField p0_fieldSize p0_faultNow p0_hasTree p0_treeSize p0_weightCount p0_roundCount p0_setCount p0_closes p0_colour p0_has p0_needs p0_takes p0_things p0_wants)) hx hb hr hlocks (by decide) () hw hP hD hS dX10_mayNow_26
abbrev wld_X10_isUrgentNow (cI cJ cZ : ClassId) (h_p0 : Nat) (ad_p0 : Nat → Nat) (p0_places : Int32) (p0_steps : Int32) (p0_pastFirst : Int32) (p0_past : Int32) (p0_goings : Int32) (p0_rowSize : Int32) (p0_ways : Int32) (p0_hasField : Int32) (p0_fieldSize : Int32) (p0_faultNow : Int32) (p0_hasTree : Int32) (p0_treeSize : Int32) (p0_weightCount : Int32) (p0_roundCount : Int32) (p0_setCount : Int32) (p0_closes : Nat → Int32) (p0_colour : Nat → Int32) (p0_has : Nat → Int32) (p0_needs : Nat → Int32) (p0_sort : Nat → Int32) (p0_takes : Nat → Int32) (p0_things : Nat → Int32) (p0_wants : Nat → Int32) : va_W := [(h_p0, .inr (10, [.int p0_places, .int p0_steps, .ref (ad_p0 2), .ref (ad_p0 3), .ref (ad_p0 4), .ref (ad_p0 5), .ref (ad_p0 6), .ref (ad_p0 7), .ref (ad_p0 8), .ref (ad_p0 9), .ref (ad_p0 10), .ref (ad_p0 11), .ref (ad_p0 12), .ref (ad_p0 13), .ref (ad_p0 14), .int p0_pastFirst, .int p0_past, .int p0_goings, .int p0_rowSize, .ref (ad_p0 19), .ref (ad_p0 20), .int p0_ways, .ref (ad_p0 22), .ref (ad_p0 23), .int p0_hasField, .int p0_fieldSize, .ref (ad_p0 26), .ref (ad_p0 27), .ref (ad_p0 28), .ref (ad_p0 29), .ref (ad_p0 30), .ref (ad_p0 31), .ref (ad_p0 32), .int p0_faultNow, .int p0_hasTree, .int p0_treeSize, .ref (ad_p0 36), .ref (ad_p0 37), .ref (ad_p0 38), .ref (ad_p0 39), .ref (ad_p0 40), .ref (ad_p0 41), .ref (ad_p0 42), .int p0_weightCount, .ref (ad_p0 44), .int p0_roundCount, .ref (ad_p0 46), .int p0_setCount, .ref (ad_p0 48), .ref (ad_p0 49)])), ((ad_p0 7), .inl (cI, 256, .inl p0_closes)), ((ad_p0 2), .inl (cI, 16, .inl p0_colour)), ((ad_p0 10), .inl (cI, 16, .inl p0_has)), ((ad_p0 6), .inl (cI, 256, .inl p0_needs)), ((ad_p0 3), .inl (cI, 16, .inl p0_sort)), ((ad_p0 4), .inl (cI, 256, .inl p0_takes)), ((ad_p0 11), .inl (cI, 320, .inl p0_things)), ((ad_p0 8), .inl (cI, 256, .inl p0_wants))]
abbrev q_X10_isUrgentNow (dC : Nat → ClassId) (dI : Nat → Nat → Nat) (cI cJ cZ : ClassId) (h_p0 : Nat) (ad_p0 : Nat → Nat) (p0_places : Int32) (p0_steps : Int32) (p0_pastFirst : Int32) (p0_past : Int32) (p0_goings : Int32) (p0_rowSize : Int32) (p0_ways : Int32) (p0_hasField : Int32) (p0_fieldSize : Int32) (p0_faultNow : Int32) (p0_hasTree : Int32) (p0_treeSize : Int32) (p0_weightCount : Int32) (p0_roundCount : Int32) (p0_setCount : Int32) (p0_closes : Nat → Int32) (p0_colour : Nat → Int32) (p0_has : Nat → Int32) (p0_needs : Nat → Int32) (p0_sort : Nat → Int32) (p0_takes : Nat → Int32) (p0_things : Nat → Int32) (p0_wants : Nat → Int32) (post : Int32 → Prop) (A : Nat → Prop) : Array Value → State → Outcome → State → Prop := va_Qi (fun r (u : Unit) => post r ) (fun (u : Unit) t => xPost (dC, dI) A (wld_X10_isUrgentNow cI cJ cZ h_p0 ad_p0 p0_places p0_steps p0_pastFirst p0_past p0_goings p0_rowSize p0_ways p0_hasField p0_fieldSize p0_faultNow p0_hasTree p0_treeSize p0_weightCount p0_roundCount p0_setCount p0_closes p0_colour p0_has p0_needs p0_sort p0_takes p0_things p0_wants) t) A
def w_X10_isUrgentNow_L4b (p0_places : Int32) (p0_steps : Int32) (p0_closes : Nat → Int32) (p0_colour : Nat → Int32) (p0_has : Nat → Int32) (p0_needs : Nat → Int32) (p0_sort : Nat → Int32) (p0_takes : Nat → Int32) (p0_things : Nat → Int32) (p0_wants : Nat → Int32) (post : Int32 → Prop) (K : (Int32) → (Int32) → Prop) (rec : (Int32) → (Int32) → Prop) (v1 : Int32) (v2 : Int32) : Prop :=
    (p0_steps ≤ v2 →
      K v1 v2) ∧
    (¬ p0_steps ≤ v2 →
      (¬ v1 = 0 →
        ∀ x5 : Int32, x5 = v2 + (1 : Int32) →
        rec (1 : Int32) x5) ∧
      (v1 = 0 →
        vp_in v2 16 ∧
        (¬ (p0_sort v2.toNatClampNeg) = (3 : Int32) →
          ∀ x8 : Int32, x8 = v2 + (1 : Int32) →
          rec (0 : Int32) x8) ∧
        ((p0_sort v2.toNatClampNeg) = (3 : Int32) →
          w_X10_mayNow p0_places p0_closes p0_colour p0_has p0_needs p0_takes p0_things p0_wants v2 (fun r9 =>
          (r9 = 0 →
            ∀ x12 : Int32, x12 = v2 + (1 : Int32) →
            rec (0 : Int32) x12) ∧
          (¬ r9 = 0 →
            ∀ x13 : Int32, x13 = v2 + (1 : Int32) →
            rec (1 : Int32) x13)))))
def w_X10_isUrgentNow_L4 (p0_places : Int32) (p0_steps : Int32) (p0_closes : Nat → Int32) (p0_colour : Nat → Int32) (p0_has : Nat → Int32) (p0_needs : Nat → Int32) (p0_sort : Nat → Int32) (p0_takes : Nat → Int32) (p0_things : Nat → Int32) (p0_wants : Nat → Int32) (post : Int32 → Prop) (K : (Int32) → (Int32) → Prop) : Nat → (Int32) → (Int32) → Prop
  | 0, _, _ => False
  | n + 1, v1, v2 => w_X10_isUrgentNow_L4b p0_places p0_steps p0_closes p0_colour p0_has p0_needs p0_sort p0_takes p0_things p0_wants post K (w_X10_isUrgentNow_L4 p0_places p0_steps p0_closes p0_colour p0_has p0_needs p0_sort p0_takes p0_things p0_wants post K n) v1 v2
def w_X10_isUrgentNow (p0_places : Int32) (p0_steps : Int32) (p0_closes : Nat → Int32) (p0_colour : Nat → Int32) (p0_has : Nat → Int32) (p0_needs : Nat → Int32) (p0_sort : Nat → Int32) (p0_takes : Nat → Int32) (p0_things : Nat → Int32) (p0_wants : Nat → Int32) (post : Int32 → Prop) : Prop :=
  ∃ n : Nat, w_X10_isUrgentNow_L4 p0_places p0_steps p0_closes p0_colour p0_has p0_needs p0_sort p0_takes p0_things p0_wants post (fun v15 v16 =>
      v15 &&& 1 = v15 ∧
      (post v15)) n (0 : Int32) (0 : Int32)
set_option maxHeartbeats 4000000 in
set_option maxRecDepth 100000 in
theorem c_X10_isUrgentNow_L4 {p : Program} {l : Launch} {e : Env} {s : State} {m : MethodId} {args : Array Value} {below : List Frame} {meth : Method} {c : Code} {dC : Nat → ClassId} {dI : Nat → Nat → Nat} {A : Nat → Prop} {cI cJ cZ : ClassId} {h_p0 : Nat} {ad_p0 : Nat → Nat} {p0_places : Int32} {p0_steps : Int32} {p0_pastFirst : Int32} {p0_past : Int32} {p0_goings : Int32} {p0_rowSize : Int32} {p0_ways : Int32} {p0_hasField : Int32} {p0_fieldSize : Int32} {p0_faultNow : Int32} {p0_hasTree : Int32} {p0_treeSize : Int32} {p0_weightCount : Int32} {p0_roundCount : Int32} {p0_setCount : Int32} {p0_closes : Nat → Int32} {p0_colour : Nat → Int32} {p0_has : Nat → Int32} {p0_needs : Nat → Int32} {p0_sort : Nat → Int32} {p0_takes : Nat → Int32} {p0_things : Nat → Int32} {p0_wants : Nat → Int32}  {post : Int32 → Prop} {K : (Int32) → (Int32) → Prop} (E0 : xEnv p s m args meth c cX10_isUrgentNow (some .boolean) 3 RX10 wsX10_isUrgentNow (dC, dI) cI cJ cZ A) (hk : ∀ (v1 : Int32) (v2 : Int32) (H : Heap) (locs : List Loc) (ls : Array Slot), K v1 v2 → va_P (dC, dI) vwCl (wld_X10_isUrgentNow cI cJ cZ h_p0 ad_p0 p0_places p0_steps p0_pastFirst p0_past p0_goings p0_rowSize p0_ways p0_hasField p0_fieldSize p0_faultNow p0_hasTree p0_treeSize p0_weightCount p0_roundCount p0_setCount p0_closes p0_colour p0_has p0_needs p0_sort p0_takes p0_things p0_wants) H → va_D A (wld_X10_isUrgentNow cI cJ cZ h_p0 ad_p0 p0_places p0_steps p0_pastFirst p0_past p0_goings p0_rowSize p0_ways p0_hasField p0_fieldSize p0_faultNow p0_hasTree p0_treeSize p0_weightCount p0_roundCount p0_setCount p0_closes p0_colour p0_has p0_needs p0_sort p0_takes p0_things p0_wants) → va_S A s.heap H locs → lv_has ls 3 [(1, .int v1)] → W p l e ({ frames := 3, cells := 0, slots := 0, locals := 72 }) s m args below meth c H locs 0 0 (MQ below (q_X10_isUrgentNow dC dI cI cJ cZ h_p0 ad_p0 p0_places p0_steps p0_pastFirst p0_past p0_goings p0_rowSize p0_ways p0_hasField p0_fieldSize p0_faultNow p0_hasTree p0_treeSize p0_weightCount p0_roundCount p0_setCount p0_closes p0_colour p0_has p0_needs p0_sort p0_takes p0_things p0_wants post A) args s 0 0 A) (F0 m 46 ls [])) : ∀ (n : Nat) (v1 : Int32) (v2 : Int32), w_X10_isUrgentNow_L4 p0_places p0_steps p0_closes p0_colour p0_has p0_needs p0_sort p0_takes p0_things p0_wants post K n v1 v2 → ∀ (H : Heap) (locs : List Loc) (ls : Array Slot), va_P (dC, dI) vwCl (wld_X10_isUrgentNow cI cJ cZ h_p0 ad_p0 p0_places p0_steps p0_pastFirst p0_past p0_goings p0_rowSize p0_ways p0_hasField p0_fieldSize p0_faultNow p0_hasTree p0_treeSize p0_weightCount p0_roundCount p0_setCount p0_closes p0_colour p0_has p0_needs p0_sort p0_takes p0_things p0_wants) H → va_D A (wld_X10_isUrgentNow cI cJ cZ h_p0 ad_p0 p0_places p0_steps p0_pastFirst p0_past p0_goings p0_rowSize p0_ways p0_hasField p0_fieldSize p0_faultNow p0_hasTree p0_treeSize p0_weightCount p0_roundCount p0_setCount p0_closes p0_colour p0_has p0_needs p0_sort p0_takes p0_things p0_wants) → va_S A s.heap H locs → lv_has ls 3 [(0, .ref h_p0), (1, .int v1), (2, .int v2)] → W p l e ({ frames := 3, cells := 0, slots := 0, locals := 72 }) s m args below meth c H locs 0 0 (MQ below (q_X10_isUrgentNow dC dI cI cJ cZ h_p0 ad_p0 p0_places p0_steps p0_pastFirst p0_past p0_goings p0_rowSize p0_ways p0_hasField p0_fieldSize p0_faultNow p0_hasTree p0_treeSize p0_weightCount p0_roundCount p0_setCount p0_closes p0_colour p0_has p0_needs p0_sort p0_takes p0_things p0_wants post A) args s 0 0 A) (F0 m 4 ls []) := by
  obtain ⟨hx, hb, hr, hml, hown, hts, hlocks, hK, hA, n1, n2⟩ := id E0
  have iX10 : ∀ w ∈ u_ws RX10 TX10 50, w ∈ wsX10_isUrgentNow := fun w h => List.mem_cons_of_mem _ (List.mem_append_right _ h)
  intro n
  induction n with
  | zero => intro v1 v2 hw; exact hw.elim
  | succ n ih =>
    intro v1 v2 hw H locs ls hP hD hS hl
    have hw : w_X10_isUrgentNow_L4b p0_places p0_steps p0_closes p0_colour p0_has p0_needs p0_sort p0_takes p0_things p0_wants post K (w_X10_isUrgentNow_L4 p0_places p0_steps p0_closes p0_colour p0_has p0_needs p0_sort p0_takes p0_things p0_wants post K n) v1 v2 := hw
    unfold w_X10_isUrgentNow_L4b at hw
    refine lv_iload_n hx hb dX10_isUrgentNow_4 rfl (lv_at hl 2 rfl) ?_
    refine lv_aload_n hx hb dX10_isUrgentNow_5 rfl (lv_at hl 0 rfl) ?_
    refine va_get (D := (dC, dI)) (ci := 10) (v := .int p0_steps) (C := RX10) (T := TX10) (N := 50) hx hb hts iX10 hown hK hP 0 rfl rfl 1 (by decide) (hts (.fieldLink RX10 130 "NetHouseModel" "steps" "I") (by decide +kernel)) (fun _ h9 => h9) rfl dX10_isUrgentNow_6 ?_
    refine lv_icmp_ge (tgt := 46) hx hb dX10_isUrgentNow_9 (by decide) (fun c1 => ?_) (fun c2 => ?_)
    · have hw := hw.1 c1
      exact hk _ _ _ _ _ hw hP hD hS (lv_sub hl [1] rfl)
    · have hw := hw.2 c2
      refine lv_iload_n hx hb dX10_isUrgentNow_12 rfl (lv_at hl 1 rfl) ?_
      refine lv_if_ne (tgt := 34) hx hb dX10_isUrgentNow_13 (by decide) (fun c3 => ?_) (fun c4 => ?_)
      · have hw := hw.1 c3
        refine lv_iconst (v := 1) hx hb dX10_isUrgentNow_34 (by decide) ?_
        refine lv_goto (tgt := 39) hx hb dX10_isUrgentNow_35 (by decide) ?_
        refine lv_istore_n (lv' := [(1, .int (1 : Int32)), (0, .ref h_p0), (2, .int v2)]) hx hb dX10_isUrgentNow_39 rfl hl (by decide) rfl (fun ls hl => ?_)
        obtain ⟨x5, ex5⟩ : ∃ y : Int32, y = v2 + (1 : Int32) := ⟨_, rfl⟩
        have hw := hw x5 ex5
        refine lv_iinc (v := x5) (lv' := [(2, .int x5), (1, .int (1 : Int32)), (0, .ref h_p0)]) hx hb dX10_isUrgentNow_40 hl (k := 2) rfl (by rw [ex5]; rfl) (by decide) rfl (fun ls hl => ?_)
        refine lv_goto (tgt := 4) hx hb dX10_isUrgentNow_43 (by decide) ?_
        exact ih _ _ hw _ _ _ hP hD hS (lv_sub hl [2, 1, 0] rfl)
      · have hw := hw.2 c4
        refine lv_aload_n hx hb dX10_isUrgentNow_16 rfl (lv_at hl 0 rfl) ?_
        refine va_get (D := (dC, dI)) (ci := 10) (v := .ref (ad_p0 3)) (C := RX10) (T := TX10) (N := 50) hx hb hts iX10 hown hK hP 0 rfl rfl 3 (by decide) (hts (.fieldLink RX10 13 "NetHouseModel" "sort" "[I") (by decide +kernel)) (fun _ h9 => h9) rfl dX10_isUrgentNow_17 ?_
        refine lv_iload_n hx hb dX10_isUrgentNow_20 rfl (lv_at hl 2 rfl) ?_
        refine va_iald hx hb hK hP 5 0 rfl rfl hw.1 dX10_isUrgentNow_21 ?_
        have hw := hw.2
        refine lv_iconst (v := 3) hx hb dX10_isUrgentNow_22 (by decide) ?_
        refine lv_icmp_ne (tgt := 38) hx hb dX10_isUrgentNow_23 (by decide) (fun c6 => ?_) (fun c7 => ?_)
        · have hw := hw.1 c6
          refine lv_iconst (v := 0) hx hb dX10_isUrgentNow_38 (by decide) ?_
          refine lv_istore_n (lv' := [(1, .int (0 : Int32)), (0, .ref h_p0), (2, .int v2)]) hx hb dX10_isUrgentNow_39 rfl hl (by decide) rfl (fun ls hl => ?_)
          obtain ⟨x8, ex8⟩ : ∃ y : Int32, y = v2 + (1 : Int32) := ⟨_, rfl⟩
          have hw := hw x8 ex8
          refine lv_iinc (v := x8) (lv' := [(2, .int x8), (1, .int (0 : Int32)), (0, .ref h_p0)]) hx hb dX10_isUrgentNow_40 hl (k := 2) rfl (by rw [ex8]; rfl) (by decide) rfl (fun ls hl => ?_)
          refine lv_goto (tgt := 4) hx hb dX10_isUrgentNow_43 (by decide) ?_
          exact ih _ _ hw _ _ _ hP hD hS (lv_sub hl [2, 1, 0] rfl)
        · have hw := hw.2 c7
          refine lv_aload_n hx hb dX10_isUrgentNow_26 rfl (lv_at hl 0 rfl) ?_
          refine lv_iload_n hx hb dX10_isUrgentNow_27 rfl (lv_at hl 2 rfl) ?_
          obtain ⟨hPc, hDc⟩ := x_sub (wc := (wld_X10_mayNow cI cJ cZ h_p0 ad_p0 p0_places p0_steps p0_pastFirst p0_past p0_goings p0_rowSize p0_ways p0_hasField p0_fieldSize p0_faultNow p0_hasTree p0_treeSize p0_weightCount p0_roundCount p0_setCount p0_closes p0_colour p0_has p0_needs p0_takes p0_things p0_wants)) hP hD [0, 1, 2, 3, 4, 6, 7, 8] (n := 9) rfl rfl (by decide +kernel)
          refine x_calli (ws' := fun (u : Unit) => (wld_X10_isUrgentNow cI cJ cZ h_p0 ad_p0 p0_places p0_steps p0_pastFirst p0_past p0_goings p0_rowSize p0_ways p0_hasField p0_fieldSize p0_faultNow p0_hasTree p0_treeSize p0_weightCount p0_roundCount p0_setCount p0_closes p0_colour p0_has p0_needs p0_sort p0_takes p0_things p0_wants)) hP hD hS hA [0, 1, 2, 3, 4, 6, 7, 8] [5] [1, 2, 3, 4, 5, 0, 6, 7, 8] (n := 9) (k := 8) rfl (fun _ => rfl) rfl (by decide +kernel) (fun _ => rfl) (va_runV (As := [.int v2]) (rest := []) ⟨hx, hb, hml, hown, hts⟩ (c_X10_mayNow (l := l) (dC := dC) (dI := dI) (cI := cI) (cJ := cJ) (cZ := cZ) (sz := H.size) (h_p0 := h_p0) (ad_p0 := ad_p0) (p0_places := p0_places) (p0_steps := p0_steps) (p0_pastFirst := p0_pastFirst) (p0_past := p0_past) (p0_goings := p0_goings) (p0_rowSize := p0_rowSize) (p0_ways := p0_ways) (p0_hasField := p0_hasField) (p0_fieldSize := p0_fieldSize) (p0_faultNow := p0_faultNow) (p0_hasTree := p0_hasTree) (p0_treeSize := p0_treeSize) (p0_weightCount := p0_weightCount) (p0_roundCount := p0_roundCount) (p0_setCount := p0_setCount) (p0_closes := p0_closes) (p0_colour := p0_colour) (p0_has := p0_has) (p0_needs := p0_needs) (p0_takes := p0_takes) (p0_things := p0_things) (p0_wants := p0_wants) hw) (cwV 1 hts gX10_isUrgentNow_X10_mayNow rfl rfl rfl (by decide +kernel) ⟨Nat.le_of_ble_eq_true rfl, Nat.le_of_ble_eq_true rfl⟩) ⟨xPre_blind, va_recv hK hP (ci := 10) (q0 := 0) rfl rfl, xPre_at hK hPc hDc n1 n2⟩ rfl rfl hl.1 rfl (lv_room (Nat.le_of_ble_eq_true rfl)) dX10_isUrgentNow_28 ⟨Nat.zero_le _, Nat.zero_le _⟩) (fun r9 u H locs hw hP hD hS => ?_)
          try dsimp only at hw
          have hP : va_P (dC, dI) vwCl (wld_X10_isUrgentNow cI cJ cZ h_p0 ad_p0 p0_places p0_steps p0_pastFirst p0_past p0_goings p0_rowSize p0_ways p0_hasField p0_fieldSize p0_faultNow p0_hasTree p0_treeSize p0_weightCount p0_roundCount p0_setCount p0_closes p0_colour p0_has p0_needs p0_sort p0_takes p0_things p0_wants) H := hP
          have hD : va_D A (wld_X10_isUrgentNow cI cJ cZ h_p0 ad_p0 p0_places p0_steps p0_pastFirst p0_past p0_goings p0_rowSize p0_ways p0_hasField p0_fieldSize p0_faultNow p0_hasTree p0_treeSize p0_weightCount p0_roundCount p0_setCount p0_closes p0_colour p0_has p0_needs p0_sort p0_takes p0_things p0_wants) := hD
          refine lv_if_eq (tgt := 38) hx hb dX10_isUrgentNow_31 (by decide) (fun c10 => ?_) (fun c11 => ?_)
          · have hw := hw.1 c10
            refine lv_iconst (v := 0) hx hb dX10_isUrgentNow_38 (by decide) ?_
            refine lv_istore_n (lv' := [(1, .int (0 : Int32)), (0, .ref h_p0), (2, .int v2)]) hx hb dX10_isUrgentNow_39 rfl hl (by decide) rfl (fun ls hl => ?_)
            obtain ⟨x12, ex12⟩ : ∃ y : Int32, y = v2 + (1 : Int32) := ⟨_, rfl⟩
            have hw := hw x12 ex12
            refine lv_iinc (v := x12) (lv' := [(2, .int x12), (1, .int (0 : Int32)), (0, .ref h_p0)]) hx hb dX10_isUrgentNow_40 hl (k := 2) rfl (by rw [ex12]; rfl) (by decide) rfl (fun ls hl => ?_)
            refine lv_goto (tgt := 4) hx hb dX10_isUrgentNow_43 (by decide) ?_
            exact ih _ _ hw _ _ _ hP hD hS (lv_sub hl [2, 1, 0] rfl)
          · have hw := hw.2 c11
            refine lv_iconst (v := 1) hx hb dX10_isUrgentNow_34 (by decide) ?_
            refine lv_goto (tgt := 39) hx hb dX10_isUrgentNow_35 (by decide) ?_
            refine lv_istore_n (lv' := [(1, .int (1 : Int32)), (0, .ref h_p0), (2, .int v2)]) hx hb dX10_isUrgentNow_39 rfl hl (by decide) rfl (fun ls hl => ?_)
            obtain ⟨x13, ex13⟩ : ∃ y : Int32, y = v2 + (1 : Int32) := ⟨_, rfl⟩
            have hw := hw x13 ex13
            refine lv_iinc (v := x13) (lv' := [(2, .int x13), (1, .int (1 : Int32)), (0, .ref h_p0)]) hx hb dX10_isUrgentNow_40 hl (k := 2) rfl (by rw [ex13]; rfl) (by decide) rfl (fun ls hl => ?_)
            refine lv_goto (tgt := 4) hx hb dX10_isUrgentNow_43 (by decide) ?_
            exact ih _ _ hw _ _ _ hP hD hS (lv_sub hl [2, 1, 0] rfl)
set_option maxHeartbeats 4000000 in
set_option maxRecDepth 100000 in
theorem c_X10_isUrgentNow {l : Launch} {dC : Nat → ClassId} {dI : Nat → Nat → Nat} {sz : Nat} {cI cJ cZ : ClassId} {h_p0 : Nat} {ad_p0 : Nat → Nat} {p0_places : Int32} {p0_steps : Int32} {p0_pastFirst : Int32} {p0_past : Int32} {p0_goings : Int32} {p0_rowSize : Int32} {p0_ways : Int32} {p0_hasField : Int32} {p0_fieldSize : Int32} {p0_faultNow : Int32} {p0_hasTree : Int32} {p0_treeSize : Int32} {p0_weightCount : Int32} {p0_roundCount : Int32} {p0_setCount : Int32} {p0_closes : Nat → Int32} {p0_colour : Nat → Int32} {p0_has : Nat → Int32} {p0_needs : Nat → Int32} {p0_sort : Nat → Int32} {p0_takes : Nat → Int32} {p0_things : Nat → Int32} {p0_wants : Nat → Int32}  {post : Int32 → Prop} (hw : w_X10_isUrgentNow p0_places p0_steps p0_closes p0_colour p0_has p0_needs p0_sort p0_takes p0_things p0_wants post) : Met l yX10_isUrgentNow wsX10_isUrgentNow ({ frames := 3, cells := 0, slots := 0, locals := 72 }) (va_Pc [.ref h_p0] (xPre (dC, dI) cI cJ cZ (wld_X10_isUrgentNow cI cJ cZ h_p0 ad_p0 p0_places p0_steps p0_pastFirst p0_past p0_goings p0_rowSize p0_ways p0_hasField p0_fieldSize p0_faultNow p0_hasTree p0_treeSize p0_weightCount p0_roundCount p0_setCount p0_closes p0_colour p0_has p0_needs p0_sort p0_takes p0_things p0_wants) sz)) (q_X10_isUrgentNow dC dI cI cJ cZ h_p0 ad_p0 p0_places p0_steps p0_pastFirst p0_past p0_goings p0_rowSize p0_ways p0_hasField p0_fieldSize p0_faultNow p0_hasTree p0_treeSize p0_weightCount p0_roundCount p0_setCount p0_closes p0_colour p0_has p0_needs p0_sort p0_takes p0_things p0_wants post (va_A (wld_X10_isUrgentNow cI cJ cZ h_p0 ad_p0 p0_places p0_steps p0_pastFirst p0_past p0_goings p0_rowSize p0_ways p0_hasField p0_fieldSize p0_faultNow p0_hasTree p0_treeSize p0_weightCount p0_roundCount p0_setCount p0_closes p0_colour p0_has p0_needs p0_sort p0_takes p0_things p0_wants) sz)) 0 0 (va_A (wld_X10_isUrgentNow cI cJ cZ h_p0 ad_p0 p0_places p0_steps p0_pastFirst p0_past p0_goings p0_rowSize p0_ways p0_hasField p0_fieldSize p0_faultNow p0_hasTree p0_treeSize p0_weightCount p0_roundCount p0_setCount p0_closes p0_colour p0_has p0_needs p0_sort p0_takes p0_things p0_wants) sz) := by
  refine x_met (cc := cX10_isUrgentNow) (maxL := 3) (ret := (some .boolean)) (own := RX10) (Qc := fun A => (q_X10_isUrgentNow dC dI cI cJ cZ h_p0 ad_p0 p0_places p0_steps p0_pastFirst p0_past p0_goings p0_rowSize p0_ways p0_hasField p0_fieldSize p0_faultNow p0_hasTree p0_treeSize p0_weightCount p0_roundCount p0_setCount p0_closes p0_colour p0_has p0_needs p0_sort p0_takes p0_things p0_wants post A)) (by decide) rfl rfl (Nat.le_of_ble_eq_true rfl) ?_
  intro p e s m args below meth c A ls E0 hP hD hS hl
  obtain ⟨hx, hb, hr, hml, hown, hts, hlocks, hK, hA, n1, n2⟩ := id E0
  have iX10 : ∀ w ∈ u_ws RX10 TX10 50, w ∈ wsX10_isUrgentNow := fun w h => List.mem_cons_of_mem _ (List.mem_append_right _ h)
  have hS0 := hS
  have hl : lv_has ls 3 [(0, .ref h_p0)] := hl
  unfold w_X10_isUrgentNow at hw
  obtain ⟨H, hH⟩ : ∃ H, H = s.heap := ⟨_, rfl⟩
  have hS : va_S A s.heap H [] := by rw [hH]; exact hS
  have hP : va_P (dC, dI) vwCl (wld_X10_isUrgentNow cI cJ cZ h_p0 ad_p0 p0_places p0_steps p0_pastFirst p0_past p0_goings p0_rowSize p0_ways p0_hasField p0_fieldSize p0_faultNow p0_hasTree p0_treeSize p0_weightCount p0_roundCount p0_setCount p0_closes p0_colour p0_has p0_needs p0_sort p0_takes p0_things p0_wants) H := by rw [hH]; exact hP
  suffices hG : W p l e ({ frames := 3, cells := 0, slots := 0, locals := 72 }) s m args below meth c H [] 0 0 (MQ below (q_X10_isUrgentNow dC dI cI cJ cZ h_p0 ad_p0 p0_places p0_steps p0_pastFirst p0_past p0_goings p0_rowSize p0_ways p0_hasField p0_fieldSize p0_faultNow p0_hasTree p0_treeSize p0_weightCount p0_roundCount p0_setCount p0_closes p0_colour p0_has p0_needs p0_sort p0_takes p0_things p0_wants post A) args s 0 0 A) (F0 m 0 ls []) by rw [hH] at hG; exact hG
  clear hH
  refine lv_iconst (v := 0) hx hb dX10_isUrgentNow_0 (by decide) ?_
  refine lv_istore_n (lv' := [(1, .int (0 : Int32)), (0, .ref h_p0)]) hx hb dX10_isUrgentNow_1 rfl hl (by decide) rfl (fun ls hl => ?_)
  refine lv_iconst (v := 0) hx hb dX10_isUrgentNow_2 (by decide) ?_
  refine lv_istore_n (lv' := [(2, .int (0 : Int32)), (1, .int (0 : Int32)), (0, .ref h_p0)]) hx hb dX10_isUrgentNow_3 rfl hl (by decide) rfl (fun ls hl => ?_)
  obtain ⟨n14, hw⟩ := hw
  refine c_X10_isUrgentNow_L4 (l := l)  E0 ?_ n14 _ _ hw _ _ _ hP hD hS (lv_sub hl [2, 1, 0] rfl)
  · intro v15 v16 H locs ls hw hP hD hS hl
    have hP : va_P (dC, dI) vwCl (wld_X10_isUrgentNow cI cJ cZ h_p0 ad_p0 p0_places p0_steps p0_pastFirst p0_past p0_goings p0_rowSize p0_ways p0_hasField p0_fieldSize p0_faultNow p0_hasTree p0_treeSize p0_weightCount p0_roundCount p0_setCount p0_closes p0_colour p0_has p0_needs p0_sort p0_takes p0_things p0_wants) H := hP
    have hD : va_D A (wld_X10_isUrgentNow cI cJ cZ h_p0 ad_p0 p0_places p0_steps p0_pastFirst p0_past p0_goings p0_rowSize p0_ways p0_hasField p0_fieldSize p0_faultNow p0_hasTree p0_treeSize p0_weightCount p0_roundCount p0_setCount p0_closes p0_colour p0_has p0_needs p0_sort p0_takes p0_things p0_wants) := hD
    refine lv_iload_n hx hb dX10_isUrgentNow_46 rfl (lv_at hl 0 rfl) ?_
    have hv := hw.1
    have hw := hw.2
    exact x_zret (w1 := fun (u : Unit) => (wld_X10_isUrgentNow cI cJ cZ h_p0 ad_p0 p0_places p0_steps p0_pastFirst p0_past p0_goings p0_rowSize p0_ways p0_hasField p0_fieldSize p0_faultNow p0_hasTree p0_treeSize p0_weightCount p0_roundCount p0_setCount p0_closes p0_colour p0_has p0_needs p0_sort p0_takes p0_things p0_wants)) hx hb hr hlocks hv () hw hP hD hS dX10_isUrgentNow_47
abbrev wld_X10_goesNow (cI cJ cZ : ClassId) (h_p0 : Nat) (ad_p0 : Nat → Nat) (p0_places : Int32) (p0_steps : Int32) (p0_pastFirst : Int32) (p0_past : Int32) (p0_goings : Int32) (p0_rowSize : Int32) (p0_ways : Int32) (p0_hasField : Int32) (p0_fieldSize : Int32) (p0_faultNow : Int32) (p0_hasTree : Int32) (p0_treeSize : Int32) (p0_weightCount : Int32) (p0_roundCount : Int32) (p0_setCount : Int32) (p0_closes : Nat → Int32) (p0_colour : Nat → Int32) (p0_has : Nat → Int32) (p0_needs : Nat → Int32) (p0_sort : Nat → Int32) (p0_takes : Nat → Int32) (p0_things : Nat → Int32) (p0_wants : Nat → Int32) : va_W := [(h_p0, .inr (10, [.int p0_places, .int p0_steps, .ref (ad_p0 2), .ref (ad_p0 3), .ref (ad_p0 4), .ref (ad_p0 5), .ref (ad_p0 6), .ref (ad_p0 7), .ref (ad_p0 8), .ref (ad_p0 9), .ref (ad_p0 10), .ref (ad_p0 11), .ref (ad_p0 12), .ref (ad_p0 13), .ref (ad_p0 14), .int p0_pastFirst, .int p0_past, .int p0_goings, .int p0_rowSize, .ref (ad_p0 19), .ref (ad_p0 20), .int p0_ways, .ref (ad_p0 22), .ref (ad_p0 23), .int p0_hasField, .int p0_fieldSize, .ref (ad_p0 26), .ref (ad_p0 27), .ref (ad_p0 28), .ref (ad_p0 29), .ref (ad_p0 30), .ref (ad_p0 31), .ref (ad_p0 32), .int p0_faultNow, .int p0_hasTree, .int p0_treeSize, .ref (ad_p0 36), .ref (ad_p0 37), .ref (ad_p0 38), .ref (ad_p0 39), .ref (ad_p0 40), .ref (ad_p0 41), .ref (ad_p0 42), .int p0_weightCount, .ref (ad_p0 44), .int p0_roundCount, .ref (ad_p0 46), .int p0_setCount, .ref (ad_p0 48), .ref (ad_p0 49)])), ((ad_p0 7), .inl (cI, 256, .inl p0_closes)), ((ad_p0 2), .inl (cI, 16, .inl p0_colour)), ((ad_p0 10), .inl (cI, 16, .inl p0_has)), ((ad_p0 6), .inl (cI, 256, .inl p0_needs)), ((ad_p0 3), .inl (cI, 16, .inl p0_sort)), ((ad_p0 4), .inl (cI, 256, .inl p0_takes)), ((ad_p0 11), .inl (cI, 320, .inl p0_things)), ((ad_p0 8), .inl (cI, 256, .inl p0_wants))]
abbrev q_X10_goesNow (dC : Nat → ClassId) (dI : Nat → Nat → Nat) (cI cJ cZ : ClassId) (h_p0 : Nat) (ad_p0 : Nat → Nat) (p0_places : Int32) (p0_steps : Int32) (p0_pastFirst : Int32) (p0_past : Int32) (p0_goings : Int32) (p0_rowSize : Int32) (p0_ways : Int32) (p0_hasField : Int32) (p0_fieldSize : Int32) (p0_faultNow : Int32) (p0_hasTree : Int32) (p0_treeSize : Int32) (p0_weightCount : Int32) (p0_roundCount : Int32) (p0_setCount : Int32) (p0_closes : Nat → Int32) (p0_colour : Nat → Int32) (p0_has : Nat → Int32) (p0_needs : Nat → Int32) (p0_sort : Nat → Int32) (p0_takes : Nat → Int32) (p0_things : Nat → Int32) (p0_wants : Nat → Int32) (post : Int32 → Prop) (A : Nat → Prop) : Array Value → State → Outcome → State → Prop := va_Qi (fun r (u : Unit) => post r ) (fun (u : Unit) t => xPost (dC, dI) A (wld_X10_goesNow cI cJ cZ h_p0 ad_p0 p0_places p0_steps p0_pastFirst p0_past p0_goings p0_rowSize p0_ways p0_hasField p0_fieldSize p0_faultNow p0_hasTree p0_treeSize p0_weightCount p0_roundCount p0_setCount p0_closes p0_colour p0_has p0_needs p0_sort p0_takes p0_things p0_wants) t) A
def w_X10_goesNow (p0_places : Int32) (p0_steps : Int32) (p0_closes : Nat → Int32) (p0_colour : Nat → Int32) (p0_has : Nat → Int32) (p0_needs : Nat → Int32) (p0_sort : Nat → Int32) (p0_takes : Nat → Int32) (p0_things : Nat → Int32) (p0_wants : Nat → Int32) (a1 : Int32) (post : Int32 → Prop) : Prop :=
  w_X10_mayNow p0_places p0_closes p0_colour p0_has p0_needs p0_takes p0_things p0_wants a1 (fun r1 =>
  (r1 = 0 →
    (post (0 : Int32))) ∧
  (¬ r1 = 0 →
    vp_in a1 16 ∧
    ((p0_sort a1.toNatClampNeg) = (3 : Int32) →
      (post (1 : Int32))) ∧
    (¬ (p0_sort a1.toNatClampNeg) = (3 : Int32) →
      w_X10_isUrgentNow p0_places p0_steps p0_closes p0_colour p0_has p0_needs p0_sort p0_takes p0_things p0_wants (fun r6 =>
      (¬ r6 = 0 →
        (post (0 : Int32))) ∧
      (r6 = 0 →
        (post (1 : Int32)))))))
set_option maxHeartbeats 4000000 in
set_option maxRecDepth 100000 in
theorem c_X10_goesNow {l : Launch} {dC : Nat → ClassId} {dI : Nat → Nat → Nat} {sz : Nat} {cI cJ cZ : ClassId} {h_p0 : Nat} {ad_p0 : Nat → Nat} {p0_places : Int32} {p0_steps : Int32} {p0_pastFirst : Int32} {p0_past : Int32} {p0_goings : Int32} {p0_rowSize : Int32} {p0_ways : Int32} {p0_hasField : Int32} {p0_fieldSize : Int32} {p0_faultNow : Int32} {p0_hasTree : Int32} {p0_treeSize : Int32} {p0_weightCount : Int32} {p0_roundCount : Int32} {p0_setCount : Int32} {p0_closes : Nat → Int32} {p0_colour : Nat → Int32} {p0_has : Nat → Int32} {p0_needs : Nat → Int32} {p0_sort : Nat → Int32} {p0_takes : Nat → Int32} {p0_things : Nat → Int32} {p0_wants : Nat → Int32} {a1 : Int32} {post : Int32 → Prop} (hw : w_X10_goesNow p0_places p0_steps p0_closes p0_colour p0_has p0_needs p0_sort p0_takes p0_things p0_wants a1 post) : Met l yX10_goesNow wsX10_goesNow ({ frames := 4, cells := 0, slots := 0, locals := 94 }) (va_Pc [.ref h_p0, .int a1] (xPre (dC, dI) cI cJ cZ (wld_X10_goesNow cI cJ cZ h_p0 ad_p0 p0_places p0_steps p0_pastFirst p0_past p0_goings p0_rowSize p0_ways p0_hasField p0_fieldSize p0_faultNow p0_hasTree p0_treeSize p0_weightCount p0_roundCount p0_setCount p0_closes p0_colour p0_has p0_needs p0_sort p0_takes p0_things p0_wants) sz)) (q_X10_goesNow dC dI cI cJ cZ h_p0 ad_p0 p0_places p0_steps p0_pastFirst p0_past p0_goings p0_rowSize p0_ways p0_hasField p0_fieldSize p0_faultNow p0_hasTree p0_treeSize p0_weightCount p0_roundCount p0_setCount p0_closes p0_colour p0_has p0_needs p0_sort p0_takes p0_things p0_wants post (va_A (wld_X10_goesNow cI cJ cZ h_p0 ad_p0 p0_places p0_steps p0_pastFirst p0_past p0_goings p0_rowSize p0_ways p0_hasField p0_fieldSize p0_faultNow p0_hasTree p0_treeSize p0_weightCount p0_roundCount p0_setCount p0_closes p0_colour p0_has p0_needs p0_sort p0_takes p0_things p0_wants) sz)) 0 0 (va_A (wld_X10_goesNow cI cJ cZ h_p0 ad_p0 p0_places p0_steps p0_pastFirst p0_past p0_goings p0_rowSize p0_ways p0_hasField p0_fieldSize p0_faultNow p0_hasTree p0_treeSize p0_weightCount p0_roundCount p0_setCount p0_closes p0_colour p0_has p0_needs p0_sort p0_takes p0_things p0_wants) sz) := by
  refine x_met (cc := cX10_goesNow) (maxL := 2) (ret := (some .boolean)) (own := RX10) (Qc := fun A => (q_X10_goesNow dC dI cI cJ cZ h_p0 ad_p0 p0_places p0_steps p0_pastFirst p0_past p0_goings p0_rowSize p0_ways p0_hasField p0_fieldSize p0_faultNow p0_hasTree p0_treeSize p0_weightCount p0_roundCount p0_setCount p0_closes p0_colour p0_has p0_needs p0_sort p0_takes p0_things p0_wants post A)) (by decide) rfl rfl (Nat.le_of_ble_eq_true rfl) ?_
  intro p e s m args below meth c A ls E0 hP hD hS hl
  obtain ⟨hx, hb, hr, hml, hown, hts, hlocks, hK, hA, n1, n2⟩ := id E0
  have iX10 : ∀ w ∈ u_ws RX10 TX10 50, w ∈ wsX10_goesNow := fun w h => List.mem_cons_of_mem _ (List.mem_append_right _ h)
  have hS0 := hS
  have hl : lv_has ls 2 [(0, .ref h_p0), (1, .int a1)] := hl
  unfold w_X10_goesNow at hw
  obtain ⟨H, hH⟩ : ∃ H, H = s.heap := ⟨_, rfl⟩
  have hS : va_S A s.heap H [] := by rw [hH]; exact hS
  have hP : va_P (dC, dI) vwCl (wld_X10_goesNow cI cJ cZ h_p0 ad_p0 p0_places p0_steps p0_pastFirst p0_past p0_goings p0_rowSize p0_ways p0_hasField p0_fieldSize p0_faultNow p0_hasTree p0_treeSize p0_weightCount p0_roundCount p0_setCount p0_closes p0_colour p0_has p0_needs p0_sort p0_takes p0_things p0_wants) H := by rw [hH]; exact hP
  suffices hG : W p l e ({ frames := 4, cells := 0, slots := 0, locals := 94 }) s m args below meth c H [] 0 0 (MQ below (q_X10_goesNow dC dI cI cJ cZ h_p0 ad_p0 p0_places p0_steps p0_pastFirst p0_past p0_goings p0_rowSize p0_ways p0_hasField p0_fieldSize p0_faultNow p0_hasTree p0_treeSize p0_weightCount p0_roundCount p0_setCount p0_closes p0_colour p0_has p0_needs p0_sort p0_takes p0_things p0_wants post A) args s 0 0 A) (F0 m 0 ls []) by rw [hH] at hG; exact hG
  clear hH
  refine lv_aload_n hx hb dX10_goesNow_0 rfl (lv_at hl 0 rfl) ?_
  refine lv_iload_n hx hb dX10_goesNow_1 rfl (lv_at hl 1 rfl) ?_
  obtain ⟨hPc, hDc⟩ := x_sub (wc := (wld_X10_mayNow cI cJ cZ h_p0 ad_p0 p0_places p0_steps p0_pastFirst p0_past p0_goings p0_rowSize p0_ways p0_hasField p0_fieldSize p0_faultNow p0_hasTree p0_treeSize p0_weightCount p0_roundCount p0_setCount p0_closes p0_colour p0_has p0_needs p0_takes p0_things p0_wants)) hP hD [0, 1, 2, 3, 4, 6, 7, 8] (n := 9) rfl rfl (by decide +kernel)
  refine x_calli (ws' := fun (u : Unit) => (wld_X10_goesNow cI cJ cZ h_p0 ad_p0 p0_places p0_steps p0_pastFirst p0_past p0_goings p0_rowSize p0_ways p0_hasField p0_fieldSize p0_faultNow p0_hasTree p0_treeSize p0_weightCount p0_roundCount p0_setCount p0_closes p0_colour p0_has p0_needs p0_sort p0_takes p0_things p0_wants)) hP hD hS hA [0, 1, 2, 3, 4, 6, 7, 8] [5] [1, 2, 3, 4, 5, 0, 6, 7, 8] (n := 9) (k := 8) rfl (fun _ => rfl) rfl (by decide +kernel) (fun _ => rfl) (va_runV (As := [.int a1]) (rest := []) ⟨hx, hb, hml, hown, hts⟩ (c_X10_mayNow (l := l) (dC := dC) (dI := dI) (cI := cI) (cJ := cJ) (cZ := cZ) (sz := H.size) (h_p0 := h_p0) (ad_p0 := ad_p0) (p0_places := p0_places) (p0_steps := p0_steps) (p0_pastFirst := p0_pastFirst) (p0_past := p0_past) (p0_goings := p0_goings) (p0_rowSize := p0_rowSize) (p0_ways := p0_ways) (p0_hasField := p0_hasField) (p0_fieldSize := p0_fieldSize) (p0_faultNow := p0_faultNow) (p0_hasTree := p0_hasTree) (p0_treeSize := p0_treeSize) (p0_weightCount := p0_weightCount) (p0_roundCount := p0_roundCount) (p0_setCount := p0_setCount) (p0_closes := p0_closes) (p0_colour := p0_colour) (p0_has := p0_has) (p0_needs := p0_needs) (p0_takes := p0_takes) (p0_things := p0_things) (p0_wants := p0_wants) hw) (cwV 1 hts gX10_goesNow_X10_mayNow rfl rfl rfl (by decide +kernel) ⟨Nat.le_of_ble_eq_true rfl, Nat.le_of_ble_eq_true rfl⟩) ⟨xPre_blind, va_recv hK hP (ci := 10) (q0 := 0) rfl rfl, xPre_at hK hPc hDc n1 n2⟩ rfl rfl hl.1 rfl (lv_room (Nat.le_of_ble_eq_true rfl)) dX10_goesNow_2 ⟨Nat.zero_le _, Nat.zero_le _⟩) (fun r1 u H locs hw hP hD hS => ?_)
  try dsimp only at hw
  have hP : va_P (dC, dI) vwCl (wld_X10_goesNow cI cJ cZ h_p0 ad_p0 p0_places p0_steps p0_pastFirst p0_past p0_goings p0_rowSize p0_ways p0_hasField p0_fieldSize p0_faultNow p0_hasTree p0_treeSize p0_weightCount p0_roundCount p0_setCount p0_closes p0_colour p0_has p0_needs p0_sort p0_takes p0_things p0_wants) H := hP
  have hD : va_D A (wld_X10_goesNow cI cJ cZ h_p0 ad_p0 p0_places p0_steps p0_pastFirst p0_past p0_goings p0_rowSize p0_ways p0_hasField p0_fieldSize p0_faultNow p0_hasTree p0_treeSize p0_weightCount p0_roundCount p0_setCount p0_closes p0_colour p0_has p0_needs p0_sort p0_takes p0_things p0_wants) := hD
  refine lv_if_eq (tgt := 29) hx hb dX10_goesNow_5 (by decide) (fun c2 => ?_) (fun c3 => ?_)
  · have hw := hw.1 c2
    refine lv_iconst (v := 0) hx hb dX10_goesNow_29 (by decide) ?_
    exact x_zret (w1 := fun (u : Unit) => (wld_X10_goesNow cI cJ cZ h_p0 ad_p0 p0_places p0_steps p0_pastFirst p0_past p0_goings p0_rowSize p0_ways p0_hasField p0_fieldSize p0_faultNow p0_hasTree p0_treeSize p0_weightCount p0_roundCount p0_setCount p0_closes p0_colour p0_has p0_needs p0_sort p0_takes p0_things p0_wants)) hx hb hr hlocks (by decide) () hw hP hD hS dX10_goesNow_30
  · have hw := hw.2 c3
    refine lv_aload_n hx hb dX10_goesNow_8 rfl (lv_at hl 0 rfl) ?_
    refine va_get (D := (dC, dI)) (ci := 10) (v := .ref (ad_p0 3)) (C := RX10) (T := TX10) (N := 50) hx hb hts iX10 hown hK hP 0 rfl rfl 3 (by decide) (hts (.fieldLink RX10 13 "NetHouseModel" "sort" "[I") (by decide +kernel)) (fun _ h9 => h9) rfl dX10_goesNow_9 ?_
    refine lv_iload_n hx hb dX10_goesNow_12 rfl (lv_at hl 1 rfl) ?_
    refine va_iald hx hb hK hP 5 0 rfl rfl hw.1 dX10_goesNow_13 ?_
    have hw := hw.2
    refine lv_iconst (v := 3) hx hb dX10_goesNow_14 (by decide) ?_
    refine lv_icmp_eq (tgt := 25) hx hb dX10_goesNow_15 (by decide) (fun c4 => ?_) (fun c5 => ?_)
    · have hw := hw.1 c4
      refine lv_iconst (v := 1) hx hb dX10_goesNow_25 (by decide) ?_
      refine lv_goto (tgt := 30) hx hb dX10_goesNow_26 (by decide) ?_
      exact x_zret (w1 := fun (u : Unit) => (wld_X10_goesNow cI cJ cZ h_p0 ad_p0 p0_places p0_steps p0_pastFirst p0_past p0_goings p0_rowSize p0_ways p0_hasField p0_fieldSize p0_faultNow p0_hasTree p0_treeSize p0_weightCount p0_roundCount p0_setCount p0_closes p0_colour p0_has p0_needs p0_sort p0_takes p0_things p0_wants)) hx hb hr hlocks (by decide) () hw hP hD hS dX10_goesNow_30
    · have hw := hw.2 c5
      refine lv_aload_n hx hb dX10_goesNow_18 rfl (lv_at hl 0 rfl) ?_
      obtain ⟨hPc, hDc⟩ := x_sub (wc := (wld_X10_isUrgentNow cI cJ cZ h_p0 ad_p0 p0_places p0_steps p0_pastFirst p0_past p0_goings p0_rowSize p0_ways p0_hasField p0_fieldSize p0_faultNow p0_hasTree p0_treeSize p0_weightCount p0_roundCount p0_setCount p0_closes p0_colour p0_has p0_needs p0_sort p0_takes p0_things p0_wants)) hP hD [0, 1, 2, 3, 4, 5, 6, 7, 8] (n := 9) rfl rfl (by decide +kernel)
      refine x_calli (ws' := fun (u : Unit) => (wld_X10_goesNow cI cJ cZ h_p0 ad_p0 p0_places p0_steps p0_pastFirst p0_past p0_goings p0_rowSize p0_ways p0_hasField p0_fieldSize p0_faultNow p0_hasTree p0_treeSize p0_weightCount p0_roundCount p0_setCount p0_closes p0_colour p0_has p0_needs p0_sort p0_takes p0_things p0_wants)) hP hD hS hA [0, 1, 2, 3, 4, 5, 6, 7, 8] [] [0, 1, 2, 3, 4, 5, 6, 7, 8] (n := 9) (k := 9) rfl (fun _ => rfl) rfl (by decide +kernel) (fun _ => rfl) (va_runV (As := []) (rest := []) ⟨hx, hb, hml, hown, hts⟩ (c_X10_isUrgentNow (l := l) (dC := dC) (dI := dI) (cI := cI) (cJ := cJ) (cZ := cZ) (sz := H.size) (h_p0 := h_p0) (ad_p0 := ad_p0) (p0_places := p0_places) (p0_steps := p0_steps) (p0_pastFirst := p0_pastFirst) (p0_past := p0_past) (p0_goings := p0_goings) (p0_rowSize := p0_rowSize) (p0_ways := p0_ways) (p0_hasField := p0_hasField) (p0_fieldSize := p0_fieldSize) (p0_faultNow := p0_faultNow) (p0_hasTree := p0_hasTree) (p0_treeSize := p0_treeSize) (p0_weightCount := p0_weightCount) (p0_roundCount := p0_roundCount) (p0_setCount := p0_setCount) (p0_closes := p0_closes) (p0_colour := p0_colour) (p0_has := p0_has) (p0_needs := p0_needs) (p0_sort := p0_sort) (p0_takes := p0_takes) (p0_things := p0_things) (p0_wants := p0_wants) hw) (cwV 0 hts gX10_goesNow_X10_isUrgentNow rfl rfl rfl (by decide +kernel) ⟨Nat.le_of_ble_eq_true rfl, Nat.le_of_ble_eq_true rfl⟩) ⟨xPre_blind, va_recv hK hP (ci := 10) (q0 := 0) rfl rfl, xPre_at hK hPc hDc n1 n2⟩ rfl rfl hl.1 rfl (lv_room (Nat.le_of_ble_eq_true rfl)) dX10_goesNow_19 ⟨Nat.zero_le _, Nat.zero_le _⟩) (fun r6 u H locs hw hP hD hS => ?_)
      try dsimp only at hw
      have hP : va_P (dC, dI) vwCl (wld_X10_goesNow cI cJ cZ h_p0 ad_p0 p0_places p0_steps p0_pastFirst p0_past p0_goings p0_rowSize p0_ways p0_hasField p0_fieldSize p0_faultNow p0_hasTree p0_treeSize p0_weightCount p0_roundCount p0_setCount p0_closes p0_colour p0_has p0_needs p0_sort p0_takes p0_things p0_wants) H := hP
      have hD : va_D A (wld_X10_goesNow cI cJ cZ h_p0 ad_p0 p0_places p0_steps p0_pastFirst p0_past p0_goings p0_rowSize p0_ways p0_hasField p0_fieldSize p0_faultNow p0_hasTree p0_treeSize p0_weightCount p0_roundCount p0_setCount p0_closes p0_colour p0_has p0_needs p0_sort p0_takes p0_things p0_wants) := hD
      refine lv_if_ne (tgt := 29) hx hb dX10_goesNow_22 (by decide) (fun c7 => ?_) (fun c8 => ?_)
      · have hw := hw.1 c7
        refine lv_iconst (v := 0) hx hb dX10_goesNow_29 (by decide) ?_
        exact x_zret (w1 := fun (u : Unit) => (wld_X10_goesNow cI cJ cZ h_p0 ad_p0 p0_places p0_steps p0_pastFirst p0_past p0_goings p0_rowSize p0_ways p0_hasField p0_fieldSize p0_faultNow p0_hasTree p0_treeSize p0_weightCount p0_roundCount p0_setCount p0_closes p0_colour p0_has p0_needs p0_sort p0_takes p0_things p0_wants)) hx hb hr hlocks (by decide) () hw hP hD hS dX10_goesNow_30
      · have hw := hw.2 c8
        refine lv_iconst (v := 1) hx hb dX10_goesNow_25 (by decide) ?_
        refine lv_goto (tgt := 30) hx hb dX10_goesNow_26 (by decide) ?_
        exact x_zret (w1 := fun (u : Unit) => (wld_X10_goesNow cI cJ cZ h_p0 ad_p0 p0_places p0_steps p0_pastFirst p0_past p0_goings p0_rowSize p0_ways p0_hasField p0_fieldSize p0_faultNow p0_hasTree p0_treeSize p0_weightCount p0_roundCount p0_setCount p0_closes p0_colour p0_has p0_needs p0_sort p0_takes p0_things p0_wants)) hx hb hr hlocks (by decide) () hw hP hD hS dX10_goesNow_30
abbrev wld_X10_may (cI cJ cZ : ClassId) (h_p0 : Nat) (ad_p0 : Nat → Nat) (p0_places : Int32) (p0_steps : Int32) (p0_pastFirst : Int32) (p0_past : Int32) (p0_goings : Int32) (p0_rowSize : Int32) (p0_ways : Int32) (p0_hasField : Int32) (p0_fieldSize : Int32) (p0_faultNow : Int32) (p0_hasTree : Int32) (p0_treeSize : Int32) (p0_weightCount : Int32) (p0_roundCount : Int32) (p0_setCount : Int32) (p0_closes : Nat → Int32) (p0_colour : Nat → Int32) (p0_has : Nat → Int32) (p0_needs : Nat → Int32) (p0_sort : Nat → Int32) (p0_takes : Nat → Int32) (p0_things : Nat → Int32) (p0_wants : Nat → Int32) : va_W := [(h_p0, .inr (10, [.int p0_places, .int p0_steps, .ref (ad_p0 2), .ref (ad_p0 3), .ref (ad_p0 4), .ref (ad_p0 5), .ref (ad_p0 6), .ref (ad_p0 7), .ref (ad_p0 8), .ref (ad_p0 9), .ref (ad_p0 10), .ref (ad_p0 11), .ref (ad_p0 12), .ref (ad_p0 13), .ref (ad_p0 14), .int p0_pastFirst, .int p0_past, .int p0_goings, .int p0_rowSize, .ref (ad_p0 19), .ref (ad_p0 20), .int p0_ways, .ref (ad_p0 22), .ref (ad_p0 23), .int p0_hasField, .int p0_fieldSize, .ref (ad_p0 26), .ref (ad_p0 27), .ref (ad_p0 28), .ref (ad_p0 29), .ref (ad_p0 30), .ref (ad_p0 31), .ref (ad_p0 32), .int p0_faultNow, .int p0_hasTree, .int p0_treeSize, .ref (ad_p0 36), .ref (ad_p0 37), .ref (ad_p0 38), .ref (ad_p0 39), .ref (ad_p0 40), .ref (ad_p0 41), .ref (ad_p0 42), .int p0_weightCount, .ref (ad_p0 44), .int p0_roundCount, .ref (ad_p0 46), .int p0_setCount, .ref (ad_p0 48), .ref (ad_p0 49)])), ((ad_p0 7), .inl (cI, 256, .inl p0_closes)), ((ad_p0 2), .inl (cI, 16, .inl p0_colour)), ((ad_p0 10), .inl (cI, 16, .inl p0_has)), ((ad_p0 6), .inl (cI, 256, .inl p0_needs)), ((ad_p0 3), .inl (cI, 16, .inl p0_sort)), ((ad_p0 4), .inl (cI, 256, .inl p0_takes)), ((ad_p0 11), .inl (cI, 320, .inl p0_things)), ((ad_p0 8), .inl (cI, 256, .inl p0_wants))]
abbrev q_X10_may (dC : Nat → ClassId) (dI : Nat → Nat → Nat) (cI cJ cZ : ClassId) (h_p0 : Nat) (ad_p0 : Nat → Nat) (p0_places : Int32) (p0_steps : Int32) (p0_pastFirst : Int32) (p0_past : Int32) (p0_goings : Int32) (p0_rowSize : Int32) (p0_ways : Int32) (p0_hasField : Int32) (p0_fieldSize : Int32) (p0_faultNow : Int32) (p0_hasTree : Int32) (p0_treeSize : Int32) (p0_weightCount : Int32) (p0_roundCount : Int32) (p0_setCount : Int32) (p0_closes : Nat → Int32) (p0_colour : Nat → Int32) (p0_has : Nat → Int32) (p0_needs : Nat → Int32) (p0_sort : Nat → Int32) (p0_takes : Nat → Int32) (p0_things : Nat → Int32) (p0_wants : Nat → Int32) (post : Int32 → Prop) (A : Nat → Prop) : Array Value → State → Outcome → State → Prop := va_Qi (fun r (u : Unit) => post r ) (fun (u : Unit) t => xPost (dC, dI) A (wld_X10_may cI cJ cZ h_p0 ad_p0 p0_places p0_steps p0_pastFirst p0_past p0_goings p0_rowSize p0_ways p0_hasField p0_fieldSize p0_faultNow p0_hasTree p0_treeSize p0_weightCount p0_roundCount p0_setCount p0_closes p0_colour p0_has p0_needs p0_sort p0_takes p0_things p0_wants) t) A
def w_X10_may (p0_places : Int32) (p0_steps : Int32) (p0_closes : Nat → Int32) (p0_colour : Nat → Int32) (p0_has : Nat → Int32) (p0_needs : Nat → Int32) (p0_sort : Nat → Int32) (p0_takes : Nat → Int32) (p0_things : Nat → Int32) (p0_wants : Nat → Int32) (a1 : Int32) (post : Int32 → Prop) : Prop :=
  w_X10_isStep p0_steps a1 (fun r1 =>
  (¬ r1 = 0 →
    w_X10_goesNow p0_places p0_steps p0_closes p0_colour p0_has p0_needs p0_sort p0_takes p0_things p0_wants a1 (fun r4 =>
    (r4 = 0 →
      w_X10_mayNow p0_places p0_closes p0_colour p0_has p0_needs p0_takes p0_things p0_wants a1 (fun r7 =>
      (r7 = 0 →
        (post (0 : Int32))) ∧
      (¬ r7 = 0 →
        (post (2 : Int32))))) ∧
    (¬ r4 = 0 →
      (post (1 : Int32))))) ∧
  (r1 = 0 →
    (post (-2000000001 : Int32))))
set_option maxHeartbeats 4000000 in
set_option maxRecDepth 100000 in
theorem c_X10_may {l : Launch} {dC : Nat → ClassId} {dI : Nat → Nat → Nat} {sz : Nat} {cI cJ cZ : ClassId} {h_p0 : Nat} {ad_p0 : Nat → Nat} {p0_places : Int32} {p0_steps : Int32} {p0_pastFirst : Int32} {p0_past : Int32} {p0_goings : Int32} {p0_rowSize : Int32} {p0_ways : Int32} {p0_hasField : Int32} {p0_fieldSize : Int32} {p0_faultNow : Int32} {p0_hasTree : Int32} {p0_treeSize : Int32} {p0_weightCount : Int32} {p0_roundCount : Int32} {p0_setCount : Int32} {p0_closes : Nat → Int32} {p0_colour : Nat → Int32} {p0_has : Nat → Int32} {p0_needs : Nat → Int32} {p0_sort : Nat → Int32} {p0_takes : Nat → Int32} {p0_things : Nat → Int32} {p0_wants : Nat → Int32} {a1 : Int32} {post : Int32 → Prop} (hw : w_X10_may p0_places p0_steps p0_closes p0_colour p0_has p0_needs p0_sort p0_takes p0_things p0_wants a1 post) : Met l yX10_may wsX10_may ({ frames := 5, cells := 0, slots := 0, locals := 115 }) (va_Pc [.ref h_p0, .int a1] (xPre (dC, dI) cI cJ cZ (wld_X10_may cI cJ cZ h_p0 ad_p0 p0_places p0_steps p0_pastFirst p0_past p0_goings p0_rowSize p0_ways p0_hasField p0_fieldSize p0_faultNow p0_hasTree p0_treeSize p0_weightCount p0_roundCount p0_setCount p0_closes p0_colour p0_has p0_needs p0_sort p0_takes p0_things p0_wants) sz)) (q_X10_may dC dI cI cJ cZ h_p0 ad_p0 p0_places p0_steps p0_pastFirst p0_past p0_goings p0_rowSize p0_ways p0_hasField p0_fieldSize p0_faultNow p0_hasTree p0_treeSize p0_weightCount p0_roundCount p0_setCount p0_closes p0_colour p0_has p0_needs p0_sort p0_takes p0_things p0_wants post (va_A (wld_X10_may cI cJ cZ h_p0 ad_p0 p0_places p0_steps p0_pastFirst p0_past p0_goings p0_rowSize p0_ways p0_hasField p0_fieldSize p0_faultNow p0_hasTree p0_treeSize p0_weightCount p0_roundCount p0_setCount p0_closes p0_colour p0_has p0_needs p0_sort p0_takes p0_things p0_wants) sz)) 0 0 (va_A (wld_X10_may cI cJ cZ h_p0 ad_p0 p0_places p0_steps p0_pastFirst p0_past p0_goings p0_rowSize p0_ways p0_hasField p0_fieldSize p0_faultNow p0_hasTree p0_treeSize p0_weightCount p0_roundCount p0_setCount p0_closes p0_colour p0_has p0_needs p0_sort p0_takes p0_things p0_wants) sz) := by
  refine x_met (cc := cX10_may) (maxL := 2) (ret := (some .int)) (own := RX10) (Qc := fun A => (q_X10_may dC dI cI cJ cZ h_p0 ad_p0 p0_places p0_steps p0_pastFirst p0_past p0_goings p0_rowSize p0_ways p0_hasField p0_fieldSize p0_faultNow p0_hasTree p0_treeSize p0_weightCount p0_roundCount p0_setCount p0_closes p0_colour p0_has p0_needs p0_sort p0_takes p0_things p0_wants post A)) (by decide) rfl rfl (Nat.le_of_ble_eq_true rfl) ?_
  intro p e s m args below meth c A ls E0 hP hD hS hl
  obtain ⟨hx, hb, hr, hml, hown, hts, hlocks, hK, hA, n1, n2⟩ := id E0
  have iX10 : ∀ w ∈ u_ws RX10 TX10 50, w ∈ wsX10_may := fun w h => List.mem_cons_of_mem _ (List.mem_append_right _ h)
  have hS0 := hS
  have hl : lv_has ls 2 [(0, .ref h_p0), (1, .int a1)] := hl
  unfold w_X10_may at hw
  obtain ⟨H, hH⟩ : ∃ H, H = s.heap := ⟨_, rfl⟩
  have hS : va_S A s.heap H [] := by rw [hH]; exact hS
  have hP : va_P (dC, dI) vwCl (wld_X10_may cI cJ cZ h_p0 ad_p0 p0_places p0_steps p0_pastFirst p0_past p0_goings p0_rowSize p0_ways p0_hasField p0_fieldSize p0_faultNow p0_hasTree p0_treeSize p0_weightCount p0_roundCount p0_setCount p0_closes p0_colour p0_has p0_needs p0_sort p0_takes p0_things p0_wants) H := by rw [hH]; exact hP
  suffices hG : W p l e ({ frames := 5, cells := 0, slots := 0, locals := 115 }) s m args below meth c H [] 0 0 (MQ below (q_X10_may dC dI cI cJ cZ h_p0 ad_p0 p0_places p0_steps p0_pastFirst p0_past p0_goings p0_rowSize p0_ways p0_hasField p0_fieldSize p0_faultNow p0_hasTree p0_treeSize p0_weightCount p0_roundCount p0_setCount p0_closes p0_colour p0_has p0_needs p0_sort p0_takes p0_things p0_wants post A) args s 0 0 A) (F0 m 0 ls []) by rw [hH] at hG; exact hG
  clear hH
  refine lv_aload_n hx hb dX10_may_0 rfl (lv_at hl 0 rfl) ?_
  refine lv_iload_n hx hb dX10_may_1 rfl (lv_at hl 1 rfl) ?_
  obtain ⟨hPc, hDc⟩ := x_sub (wc := (wld_X10_isStep cI cJ cZ h_p0 ad_p0 p0_places p0_steps p0_pastFirst p0_past p0_goings p0_rowSize p0_ways p0_hasField p0_fieldSize p0_faultNow p0_hasTree p0_treeSize p0_weightCount p0_roundCount p0_setCount)) hP hD [0] (n := 9) rfl rfl (by decide +kernel)
  refine x_calli (ws' := fun (u : Unit) => (wld_X10_may cI cJ cZ h_p0 ad_p0 p0_places p0_steps p0_pastFirst p0_past p0_goings p0_rowSize p0_ways p0_hasField p0_fieldSize p0_faultNow p0_hasTree p0_treeSize p0_weightCount p0_roundCount p0_setCount p0_closes p0_colour p0_has p0_needs p0_sort p0_takes p0_things p0_wants)) hP hD hS hA [0] [1, 2, 3, 4, 5, 6, 7, 8] [8, 0, 1, 2, 3, 4, 5, 6, 7] (n := 9) (k := 1) rfl (fun _ => rfl) rfl (by decide +kernel) (fun _ => rfl) (va_runV (As := [.int a1]) (rest := []) ⟨hx, hb, hml, hown, hts⟩ (c_X10_isStep (l := l) (dC := dC) (dI := dI) (cI := cI) (cJ := cJ) (cZ := cZ) (sz := H.size) (h_p0 := h_p0) (ad_p0 := ad_p0) (p0_places := p0_places) (p0_steps := p0_steps) (p0_pastFirst := p0_pastFirst) (p0_past := p0_past) (p0_goings := p0_goings) (p0_rowSize := p0_rowSize) (p0_ways := p0_ways) (p0_hasField := p0_hasField) (p0_fieldSize := p0_fieldSize) (p0_faultNow := p0_faultNow) (p0_hasTree := p0_hasTree) (p0_treeSize := p0_treeSize) (p0_weightCount := p0_weightCount) (p0_roundCount := p0_roundCount) (p0_setCount := p0_setCount) hw) (cwV 1 hts gX10_may_X10_isStep rfl rfl rfl (by decide +kernel) ⟨Nat.le_of_ble_eq_true rfl, Nat.le_of_ble_eq_true rfl⟩) ⟨xPre_blind, va_recv hK hP (ci := 10) (q0 := 0) rfl rfl, xPre_at hK hPc hDc n1 n2⟩ rfl rfl hl.1 rfl (lv_room (Nat.le_of_ble_eq_true rfl)) dX10_may_2 ⟨Nat.zero_le _, Nat.zero_le _⟩) (fun r1 u H locs hw hP hD hS => ?_)
  try dsimp only at hw
  have hP : va_P (dC, dI) vwCl (wld_X10_may cI cJ cZ h_p0 ad_p0 p0_places p0_steps p0_pastFirst p0_past p0_goings p0_rowSize p0_ways p0_hasField p0_fieldSize p0_faultNow p0_hasTree p0_treeSize p0_weightCount p0_roundCount p0_setCount p0_closes p0_colour p0_has p0_needs p0_sort p0_takes p0_things p0_wants) H := hP
  have hD : va_D A (wld_X10_may cI cJ cZ h_p0 ad_p0 p0_places p0_steps p0_pastFirst p0_past p0_goings p0_rowSize p0_ways p0_hasField p0_fieldSize p0_faultNow p0_hasTree p0_treeSize p0_weightCount p0_roundCount p0_setCount p0_closes p0_colour p0_has p0_needs p0_sort p0_takes p0_things p0_wants) := hD
  refine lv_if_ne (tgt := 11) hx hb dX10_may_5 (by decide) (fun c2 => ?_) (fun c3 => ?_)
  · have hw := hw.1 c2
    refine lv_aload_n hx hb dX10_may_11 rfl (lv_at hl 0 rfl) ?_
    refine lv_iload_n hx hb dX10_may_12 rfl (lv_at hl 1 rfl) ?_
    obtain ⟨hPc, hDc⟩ := x_sub (wc := (wld_X10_goesNow cI cJ cZ h_p0 ad_p0 p0_places p0_steps p0_pastFirst p0_past p0_goings p0_rowSize p0_ways p0_hasField p0_fieldSize p0_faultNow p0_hasTree p0_treeSize p0_weightCount p0_roundCount p0_setCount p0_closes p0_colour p0_has p0_needs p0_sort p0_takes p0_things p0_wants)) hP hD [0, 1, 2, 3, 4, 5, 6, 7, 8] (n := 9) rfl rfl (by decide +kernel)
    refine x_calli (ws' := fun (u : Unit) => (wld_X10_may cI cJ cZ h_p0 ad_p0 p0_places p0_steps p0_pastFirst p0_past p0_goings p0_rowSize p0_ways p0_hasField p0_fieldSize p0_faultNow p0_hasTree p0_treeSize p0_weightCount p0_roundCount p0_setCount p0_closes p0_colour p0_has p0_needs p0_sort p0_takes p0_things p0_wants)) hP hD hS hA [0, 1, 2, 3, 4, 5, 6, 7, 8] [] [0, 1, 2, 3, 4, 5, 6, 7, 8] (n := 9) (k := 9) rfl (fun _ => rfl) rfl (by decide +kernel) (fun _ => rfl) (va_runV (As := [.int a1]) (rest := []) ⟨hx, hb, hml, hown, hts⟩ (c_X10_goesNow (l := l) (dC := dC) (dI := dI) (cI := cI) (cJ := cJ) (cZ := cZ) (sz := H.size) (h_p0 := h_p0) (ad_p0 := ad_p0) (p0_places := p0_places) (p0_steps := p0_steps) (p0_pastFirst := p0_pastFirst) (p0_past := p0_past) (p0_goings := p0_goings) (p0_rowSize := p0_rowSize) (p0_ways := p0_ways) (p0_hasField := p0_hasField) (p0_fieldSize := p0_fieldSize) (p0_faultNow := p0_faultNow) (p0_hasTree := p0_hasTree) (p0_treeSize := p0_treeSize) (p0_weightCount := p0_weightCount) (p0_roundCount := p0_roundCount) (p0_setCount := p0_setCount) (p0_closes := p0_closes) (p0_colour := p0_colour) (p0_has := p0_has) (p0_needs := p0_needs) (p0_sort := p0_sort) (p0_takes := p0_takes) (p0_things := p0_things) (p0_wants := p0_wants) hw) (cwV 1 hts gX10_may_X10_goesNow rfl rfl rfl (by decide +kernel) ⟨Nat.le_of_ble_eq_true rfl, Nat.le_of_ble_eq_true rfl⟩) ⟨xPre_blind, va_recv hK hP (ci := 10) (q0 := 0) rfl rfl, xPre_at hK hPc hDc n1 n2⟩ rfl rfl hl.1 rfl (lv_room (Nat.le_of_ble_eq_true rfl)) dX10_may_13 ⟨Nat.zero_le _, Nat.zero_le _⟩) (fun r4 u H locs hw hP hD hS => ?_)
    try dsimp only at hw
    have hP : va_P (dC, dI) vwCl (wld_X10_may cI cJ cZ h_p0 ad_p0 p0_places p0_steps p0_pastFirst p0_past p0_goings p0_rowSize p0_ways p0_hasField p0_fieldSize p0_faultNow p0_hasTree p0_treeSize p0_weightCount p0_roundCount p0_setCount p0_closes p0_colour p0_has p0_needs p0_sort p0_takes p0_things p0_wants) H := hP
    have hD : va_D A (wld_X10_may cI cJ cZ h_p0 ad_p0 p0_places p0_steps p0_pastFirst p0_past p0_goings p0_rowSize p0_ways p0_hasField p0_fieldSize p0_faultNow p0_hasTree p0_treeSize p0_weightCount p0_roundCount p0_setCount p0_closes p0_colour p0_has p0_needs p0_sort p0_takes p0_things p0_wants) := hD
    refine lv_if_eq (tgt := 23) hx hb dX10_may_16 (by decide) (fun c5 => ?_) (fun c6 => ?_)
    · have hw := hw.1 c5
      refine lv_aload_n hx hb dX10_may_23 rfl (lv_at hl 0 rfl) ?_
      refine lv_iload_n hx hb dX10_may_24 rfl (lv_at hl 1 rfl) ?_
      obtain ⟨hPc, hDc⟩ := x_sub (wc := (wld_X10_mayNow cI cJ cZ h_p0 ad_p0 p0_places p0_steps p0_pastFirst p0_past p0_goings p0_rowSize p0_ways p0_hasField p0_fieldSize p0_faultNow p0_hasTree p0_treeSize p0_weightCount p0_roundCount p0_setCount p0_closes p0_colour p0_has p0_needs p0_takes p0_things p0_wants)) hP hD [0, 1, 2, 3, 4, 6, 7, 8] (n := 9) rfl rfl (by decide +kernel)
      refine x_calli (ws' := fun (u : Unit) => (wld_X10_may cI cJ cZ h_p0 ad_p0 p0_places p0_steps p0_pastFirst p0_past p0_goings p0_rowSize p0_ways p0_hasField p0_fieldSize p0_faultNow p0_hasTree p0_treeSize p0_weightCount p0_roundCount p0_setCount p0_closes p0_colour p0_has p0_needs p0_sort p0_takes p0_things p0_wants)) hP hD hS hA [0, 1, 2, 3, 4, 6, 7, 8] [5] [1, 2, 3, 4, 5, 0, 6, 7, 8] (n := 9) (k := 8) rfl (fun _ => rfl) rfl (by decide +kernel) (fun _ => rfl) (va_runV (As := [.int a1]) (rest := []) ⟨hx, hb, hml, hown, hts⟩ (c_X10_mayNow (l := l) (dC := dC) (dI := dI) (cI := cI) (cJ := cJ) (cZ := cZ) (sz := H.size) (h_p0 := h_p0) (ad_p0 := ad_p0) (p0_places := p0_places) (p0_steps := p0_steps) (p0_pastFirst := p0_pastFirst) (p0_past := p0_past) (p0_goings := p0_goings) (p0_rowSize := p0_rowSize) (p0_ways := p0_ways) (p0_hasField := p0_hasField) (p0_fieldSize := p0_fieldSize) (p0_faultNow := p0_faultNow) (p0_hasTree := p0_hasTree) (p0_treeSize := p0_treeSize) (p0_weightCount := p0_weightCount) (p0_roundCount := p0_roundCount) (p0_setCount := p0_setCount) (p0_closes := p0_closes) (p0_colour := p0_colour) (p0_has := p0_has) (p0_needs := p0_needs) (p0_takes := p0_takes) (p0_things := p0_things) (p0_wants := p0_wants) hw) (cwV 1 hts gX10_may_X10_mayNow rfl rfl rfl (by decide +kernel) ⟨Nat.le_of_ble_eq_true rfl, Nat.le_of_ble_eq_true rfl⟩) ⟨xPre_blind, va_recv hK hP (ci := 10) (q0 := 0) rfl rfl, xPre_at hK hPc hDc n1 n2⟩ rfl rfl hl.1 rfl (lv_room (Nat.le_of_ble_eq_true rfl)) dX10_may_25 ⟨Nat.zero_le _, Nat.zero_le _⟩) (fun r7 u H locs hw hP hD hS => ?_)
      try dsimp only at hw
      have hP : va_P (dC, dI) vwCl (wld_X10_may cI cJ cZ h_p0 ad_p0 p0_places p0_steps p0_pastFirst p0_past p0_goings p0_rowSize p0_ways p0_hasField p0_fieldSize p0_faultNow p0_hasTree p0_treeSize p0_weightCount p0_roundCount p0_setCount p0_closes p0_colour p0_has p0_needs p0_sort p0_takes p0_things p0_wants) H := hP
      have hD : va_D A (wld_X10_may cI cJ cZ h_p0 ad_p0 p0_places p0_steps p0_pastFirst p0_past p0_goings p0_rowSize p0_ways p0_hasField p0_fieldSize p0_faultNow p0_hasTree p0_treeSize p0_weightCount p0_roundCount p0_setCount p0_closes p0_colour p0_has p0_needs p0_sort p0_takes p0_things p0_wants) := hD
      refine lv_if_eq (tgt := 35) hx hb dX10_may_28 (by decide) (fun c8 => ?_) (fun c9 => ?_)
      · have hw := hw.1 c8
        refine lv_iconst (v := 0) hx hb dX10_may_35 (by decide) ?_
        exact x_iret (w1 := fun (u : Unit) => (wld_X10_may cI cJ cZ h_p0 ad_p0 p0_places p0_steps p0_pastFirst p0_past p0_goings p0_rowSize p0_ways p0_hasField p0_fieldSize p0_faultNow p0_hasTree p0_treeSize p0_weightCount p0_roundCount p0_setCount p0_closes p0_colour p0_has p0_needs p0_sort p0_takes p0_things p0_wants)) hx hb hr hlocks () hw hP hD hS dX10_may_36
      · have hw := hw.2 c9
        refine lv_iconst (v := 2) hx hb dX10_may_31 (by decide) ?_
        refine lv_goto (tgt := 36) hx hb dX10_may_32 (by decide) ?_
        exact x_iret (w1 := fun (u : Unit) => (wld_X10_may cI cJ cZ h_p0 ad_p0 p0_places p0_steps p0_pastFirst p0_past p0_goings p0_rowSize p0_ways p0_hasField p0_fieldSize p0_faultNow p0_hasTree p0_treeSize p0_weightCount p0_roundCount p0_setCount p0_closes p0_colour p0_has p0_needs p0_sort p0_takes p0_things p0_wants)) hx hb hr hlocks () hw hP hD hS dX10_may_36
    · have hw := hw.2 c6
      refine lv_iconst (v := 1) hx hb dX10_may_19 (by decide) ?_
      refine lv_goto (tgt := 36) hx hb dX10_may_20 (by decide) ?_
      exact x_iret (w1 := fun (u : Unit) => (wld_X10_may cI cJ cZ h_p0 ad_p0 p0_places p0_steps p0_pastFirst p0_past p0_goings p0_rowSize p0_ways p0_hasField p0_fieldSize p0_faultNow p0_hasTree p0_treeSize p0_weightCount p0_roundCount p0_setCount p0_closes p0_colour p0_has p0_needs p0_sort p0_takes p0_things p0_wants)) hx hb hr hlocks () hw hP hD hS dX10_may_36
  · have hw := hw.2 c3
    refine lv_ldc (v := -2000000001) hx hb hown (hts (.constant RX10 159 (-2000000001)) (by decide +kernel)) dX10_may_8 ?_
    exact x_iret (w1 := fun (u : Unit) => (wld_X10_may cI cJ cZ h_p0 ad_p0 p0_places p0_steps p0_pastFirst p0_past p0_goings p0_rowSize p0_ways p0_hasField p0_fieldSize p0_faultNow p0_hasTree p0_treeSize p0_weightCount p0_roundCount p0_setCount p0_closes p0_colour p0_has p0_needs p0_sort p0_takes p0_things p0_wants)) hx hb hr hlocks () hw hP hD hS dX10_may_10
abbrev wld_X10_isFull (cI cJ cZ : ClassId) (h_p0 : Nat) (ad_p0 : Nat → Nat) (p0_places : Int32) (p0_steps : Int32) (p0_pastFirst : Int32) (p0_past : Int32) (p0_goings : Int32) (p0_rowSize : Int32) (p0_ways : Int32) (p0_hasField : Int32) (p0_fieldSize : Int32) (p0_faultNow : Int32) (p0_hasTree : Int32) (p0_treeSize : Int32) (p0_weightCount : Int32) (p0_roundCount : Int32) (p0_setCount : Int32) (p0_colour : Nat → Int32) (p0_has : Nat → Int32) (p0_puts : Nat → Int32) (p0_takes : Nat → Int32) : va_W := [(h_p0, .inr (10, [.int p0_places, .int p0_steps, .ref (ad_p0 2), .ref (ad_p0 3), .ref (ad_p0 4), .ref (ad_p0 5), .ref (ad_p0 6), .ref (ad_p0 7), .ref (ad_p0 8), .ref (ad_p0 9), .ref (ad_p0 10), .ref (ad_p0 11), .ref (ad_p0 12), .ref (ad_p0 13), .ref (ad_p0 14), .int p0_pastFirst, .int p0_past, .int p0_goings, .int p0_rowSize, .ref (ad_p0 19), .ref (ad_p0 20), .int p0_ways, .ref (ad_p0 22), .ref (ad_p0 23), .int p0_hasField, .int p0_fieldSize, .ref (ad_p0 26), .ref (ad_p0 27), .ref (ad_p0 28), .ref (ad_p0 29), .ref (ad_p0 30), .ref (ad_p0 31), .ref (ad_p0 32), .int p0_faultNow, .int p0_hasTree, .int p0_treeSize, .ref (ad_p0 36), .ref (ad_p0 37), .ref (ad_p0 38), .ref (ad_p0 39), .ref (ad_p0 40), .ref (ad_p0 41), .ref (ad_p0 42), .int p0_weightCount, .ref (ad_p0 44), .int p0_roundCount, .ref (ad_p0 46), .int p0_setCount, .ref (ad_p0 48), .ref (ad_p0 49)])), ((ad_p0 2), .inl (cI, 16, .inl p0_colour)), ((ad_p0 10), .inl (cI, 16, .inl p0_has)), ((ad_p0 5), .inl (cI, 256, .inl p0_puts)), ((ad_p0 4), .inl (cI, 256, .inl p0_takes))]
abbrev q_X10_isFull (dC : Nat → ClassId) (dI : Nat → Nat → Nat) (cI cJ cZ : ClassId) (h_p0 : Nat) (ad_p0 : Nat → Nat) (p0_places : Int32) (p0_steps : Int32) (p0_pastFirst : Int32) (p0_past : Int32) (p0_goings : Int32) (p0_rowSize : Int32) (p0_ways : Int32) (p0_hasField : Int32) (p0_fieldSize : Int32) (p0_faultNow : Int32) (p0_hasTree : Int32) (p0_treeSize : Int32) (p0_weightCount : Int32) (p0_roundCount : Int32) (p0_setCount : Int32) (p0_colour : Nat → Int32) (p0_has : Nat → Int32) (p0_puts : Nat → Int32) (p0_takes : Nat → Int32) (post : Int32 → Prop) (A : Nat → Prop) : Array Value → State → Outcome → State → Prop := va_Qi (fun r (u : Unit) => post r ) (fun (u : Unit) t => xPost (dC, dI) A (wld_X10_isFull cI cJ cZ h_p0 ad_p0 p0_places p0_steps p0_pastFirst p0_past p0_goings p0_rowSize p0_ways p0_hasField p0_fieldSize p0_faultNow p0_hasTree p0_treeSize p0_weightCount p0_roundCount p0_setCount p0_colour p0_has p0_puts p0_takes) t) A
def w_X10_isFull_L4b (v1 : Int32) (p0_places : Int32) (p0_colour : Nat → Int32) (p0_has : Nat → Int32) (p0_puts : Nat → Int32) (p0_takes : Nat → Int32) (post : Int32 → Prop) (K : (Int32) → (Int32) → Prop) (rec : (Int32) → (Int32) → Prop) (v2 : Int32) (v3 : Int32) : Prop :=
    (p0_places ≤ v3 →
      K v2 v3) ∧
    (¬ p0_places ≤ v3 →
      ∀ x3 : Int32, x3 = (((16 : Int32) * v1) + v3) →
      vp_in v3 16 ∧
      vp_in x3 256 ∧
      vp_in x3 256 ∧
      ∀ x4 : Int32, x4 = (((p0_has v3.toNatClampNeg) - (p0_takes x3.toNatClampNeg)) + (p0_puts x3.toNatClampNeg)) →
      (¬ v2 = 0 →
        ∀ x7 : Int32, x7 = v3 + (1 : Int32) →
        rec (1 : Int32) x7) ∧
      (v2 = 0 →
        vp_in v3 16 ∧
        (¬ (p0_colour v3.toNatClampNeg) = (1 : Int32) →
          (x4 ≤ (1000000000 : Int32) →
            ∀ x12 : Int32, x12 = v3 + (1 : Int32) →
            rec (0 : Int32) x12) ∧
          (¬ x4 ≤ (1000000000 : Int32) →
            ∀ x13 : Int32, x13 = v3 + (1 : Int32) →
            rec (1 : Int32) x13)) ∧
        ((p0_colour v3.toNatClampNeg) = (1 : Int32) →
          (x4 ≤ (20 : Int32) →
            ∀ x16 : Int32, x16 = v3 + (1 : Int32) →
            rec (0 : Int32) x16) ∧
          (¬ x4 ≤ (20 : Int32) →
            ∀ x17 : Int32, x17 = v3 + (1 : Int32) →
            rec (1 : Int32) x17))))
def w_X10_isFull_L4 (v1 : Int32) (p0_places : Int32) (p0_colour : Nat → Int32) (p0_has : Nat → Int32) (p0_puts : Nat → Int32) (p0_takes : Nat → Int32) (post : Int32 → Prop) (K : (Int32) → (Int32) → Prop) : Nat → (Int32) → (Int32) → Prop
  | 0, _, _ => False
  | n + 1, v2, v3 => w_X10_isFull_L4b v1 p0_places p0_colour p0_has p0_puts p0_takes post K (w_X10_isFull_L4 v1 p0_places p0_colour p0_has p0_puts p0_takes post K n) v2 v3
def w_X10_isFull (p0_places : Int32) (p0_colour : Nat → Int32) (p0_has : Nat → Int32) (p0_puts : Nat → Int32) (p0_takes : Nat → Int32) (a1 : Int32) (post : Int32 → Prop) : Prop :=
  ∃ n : Nat, w_X10_isFull_L4 a1 p0_places p0_colour p0_has p0_puts p0_takes post (fun v19 v20 =>
      v19 &&& 1 = v19 ∧
      (post v19)) n (0 : Int32) (0 : Int32)
set_option maxHeartbeats 4000000 in
set_option maxRecDepth 100000 in
theorem c_X10_isFull_L4 {p : Program} {l : Launch} {e : Env} {s : State} {m : MethodId} {args : Array Value} {below : List Frame} {meth : Method} {c : Code} {dC : Nat → ClassId} {dI : Nat → Nat → Nat} {A : Nat → Prop} {cI cJ cZ : ClassId} {h_p0 : Nat} {ad_p0 : Nat → Nat} {p0_places : Int32} {p0_steps : Int32} {p0_pastFirst : Int32} {p0_past : Int32} {p0_goings : Int32} {p0_rowSize : Int32} {p0_ways : Int32} {p0_hasField : Int32} {p0_fieldSize : Int32} {p0_faultNow : Int32} {p0_hasTree : Int32} {p0_treeSize : Int32} {p0_weightCount : Int32} {p0_roundCount : Int32} {p0_setCount : Int32} {p0_colour : Nat → Int32} {p0_has : Nat → Int32} {p0_puts : Nat → Int32} {p0_takes : Nat → Int32} {v1 : Int32}  {post : Int32 → Prop} {K : (Int32) → (Int32) → Prop} (E0 : xEnv p s m args meth c cX10_isFull (some .boolean) 6 RX10 wsX10_isFull (dC, dI) cI cJ cZ A) (hk : ∀ (v2 : Int32) (v3 : Int32) (H : Heap) (locs : List Loc) (ls : Array Slot), K v2 v3 → va_P (dC, dI) vwCl (wld_X10_isFull cI cJ cZ h_p0 ad_p0 p0_places p0_steps p0_pastFirst p0_past p0_goings p0_rowSize p0_ways p0_hasField p0_fieldSize p0_faultNow p0_hasTree p0_treeSize p0_weightCount p0_roundCount p0_setCount p0_colour p0_has p0_puts p0_takes) H → va_D A (wld_X10_isFull cI cJ cZ h_p0 ad_p0 p0_places p0_steps p0_pastFirst p0_past p0_goings p0_rowSize p0_ways p0_hasField p0_fieldSize p0_faultNow p0_hasTree p0_treeSize p0_weightCount p0_roundCount p0_setCount p0_colour p0_has p0_puts p0_takes) → va_S A s.heap H locs → lv_has ls 6 [(2, .int v2)] → W p l e ({ frames := 0, cells := 0, slots := 0, locals := 0 }) s m args below meth c H locs 0 0 (MQ below (q_X10_isFull dC dI cI cJ cZ h_p0 ad_p0 p0_places p0_steps p0_pastFirst p0_past p0_goings p0_rowSize p0_ways p0_hasField p0_fieldSize p0_faultNow p0_hasTree p0_treeSize p0_weightCount p0_roundCount p0_setCount p0_colour p0_has p0_puts p0_takes post A) args s 0 0 A) (F0 m 82 ls [])) : ∀ (n : Nat) (v2 : Int32) (v3 : Int32), w_X10_isFull_L4 v1 p0_places p0_colour p0_has p0_puts p0_takes post K n v2 v3 → ∀ (H : Heap) (locs : List Loc) (ls : Array Slot), va_P (dC, dI) vwCl (wld_X10_isFull cI cJ cZ h_p0 ad_p0 p0_places p0_steps p0_pastFirst p0_past p0_goings p0_rowSize p0_ways p0_hasField p0_fieldSize p0_faultNow p0_hasTree p0_treeSize p0_weightCount p0_roundCount p0_setCount p0_colour p0_has p0_puts p0_takes) H → va_D A (wld_X10_isFull cI cJ cZ h_p0 ad_p0 p0_places p0_steps p0_pastFirst p0_past p0_goings p0_rowSize p0_ways p0_hasField p0_fieldSize p0_faultNow p0_hasTree p0_treeSize p0_weightCount p0_roundCount p0_setCount p0_colour p0_has p0_puts p0_takes) → va_S A s.heap H locs → lv_has ls 6 [(0, .ref h_p0), (1, .int v1), (2, .int v2), (3, .int v3)] → W p l e ({ frames := 0, cells := 0, slots := 0, locals := 0 }) s m args below meth c H locs 0 0 (MQ below (q_X10_isFull dC dI cI cJ cZ h_p0 ad_p0 p0_places p0_steps p0_pastFirst p0_past p0_goings p0_rowSize p0_ways p0_hasField p0_fieldSize p0_faultNow p0_hasTree p0_treeSize p0_weightCount p0_roundCount p0_setCount p0_colour p0_has p0_puts p0_takes post A) args s 0 0 A) (F0 m 4 ls []) := by
  obtain ⟨hx, hb, hr, hml, hown, hts, hlocks, hK, hA, n1, n2⟩ := id E0
  have iX10 : ∀ w ∈ u_ws RX10 TX10 50, w ∈ wsX10_isFull := fun w h => List.mem_cons_of_mem _ (List.mem_append_right _ h)
  intro n
  induction n with
  | zero => intro v2 v3 hw; exact hw.elim
  | succ n ih =>
    intro v2 v3 hw H locs ls hP hD hS hl
    have hw : w_X10_isFull_L4b v1 p0_places p0_colour p0_has p0_puts p0_takes post K (w_X10_isFull_L4 v1 p0_places p0_colour p0_has p0_puts p0_takes post K n) v2 v3 := hw
    unfold w_X10_isFull_L4b at hw
    refine lv_iload_n hx hb dX10_isFull_4 rfl (lv_at hl 3 rfl) ?_
    refine lv_aload_n hx hb dX10_isFull_5 rfl (lv_at hl 0 rfl) ?_
    refine va_get (D := (dC, dI)) (ci := 10) (v := .int p0_places) (C := RX10) (T := TX10) (N := 50) hx hb hts iX10 hown hK hP 0 rfl rfl 0 (by decide) (hts (.fieldLink RX10 127 "NetHouseModel" "places" "I") (by decide +kernel)) (fun _ h9 => h9) rfl dX10_isFull_6 ?_
    refine lv_icmp_ge (tgt := 82) hx hb dX10_isFull_9 (by decide) (fun c1 => ?_) (fun c2 => ?_)
    · have hw := hw.1 c1
      exact hk _ _ _ _ _ hw hP hD hS (lv_sub hl [2] rfl)
    · have hw := hw.2 c2
      refine lv_bipush (v := 16) hx hb dX10_isFull_12 (by decide) ?_
      refine lv_iload_n hx hb dX10_isFull_14 rfl (lv_at hl 1 rfl) ?_
      refine lv_imul hx hb dX10_isFull_15 ?_
      refine lv_iload_n hx hb dX10_isFull_16 rfl (lv_at hl 3 rfl) ?_
      refine lv_iadd hx hb dX10_isFull_17 ?_
      refine lv_topi (fun x3 ex3 => ?_)
      have hw := hw x3 ex3
      refine lv_istore (lv' := [(4, .int x3), (0, .ref h_p0), (1, .int v1), (2, .int v2), (3, .int v3)]) hx hb dX10_isFull_18 hl (by decide) rfl (fun ls hl => ?_)
      refine lv_aload_n hx hb dX10_isFull_20 rfl (lv_at hl 1 rfl) ?_
      refine va_get (D := (dC, dI)) (ci := 10) (v := .ref (ad_p0 10)) (C := RX10) (T := TX10) (N := 50) hx hb hts iX10 hown hK hP 0 rfl rfl 10 (by decide) (hts (.fieldLink RX10 34 "NetHouseModel" "has" "[I") (by decide +kernel)) (fun _ h9 => h9) rfl dX10_isFull_21 ?_
      refine lv_iload_n hx hb dX10_isFull_24 rfl (lv_at hl 4 rfl) ?_
      refine va_iald hx hb hK hP 2 0 rfl rfl hw.1 dX10_isFull_25 ?_
      have hw := hw.2
      refine lv_aload_n hx hb dX10_isFull_26 rfl (lv_at hl 1 rfl) ?_
      refine va_get (D := (dC, dI)) (ci := 10) (v := .ref (ad_p0 4)) (C := RX10) (T := TX10) (N := 50) hx hb hts iX10 hown hK hP 0 rfl rfl 4 (by decide) (hts (.fieldLink RX10 16 "NetHouseModel" "takes" "[I") (by decide +kernel)) (fun _ h9 => h9) rfl dX10_isFull_27 ?_
      refine lv_iload hx hb dX10_isFull_30 (lv_at hl 0 rfl) ?_
      refine va_iald hx hb hK hP 4 0 rfl rfl hw.1 dX10_isFull_32 ?_
      have hw := hw.2
      refine lv_isub hx hb dX10_isFull_33 ?_
      refine lv_aload_n hx hb dX10_isFull_34 rfl (lv_at hl 1 rfl) ?_
      refine va_get (D := (dC, dI)) (ci := 10) (v := .ref (ad_p0 5)) (C := RX10) (T := TX10) (N := 50) hx hb hts iX10 hown hK hP 0 rfl rfl 5 (by decide) (hts (.fieldLink RX10 19 "NetHouseModel" "puts" "[I") (by decide +kernel)) (fun _ h9 => h9) rfl dX10_isFull_35 ?_
      refine lv_iload hx hb dX10_isFull_38 (lv_at hl 0 rfl) ?_
      refine va_iald hx hb hK hP 3 0 rfl rfl hw.1 dX10_isFull_40 ?_
      have hw := hw.2
      refine lv_iadd hx hb dX10_isFull_41 ?_
      refine lv_topi (fun x4 ex4 => ?_)
      have hw := hw x4 ex4
      refine lv_istore (lv' := [(5, .int x4), (4, .int x3), (0, .ref h_p0), (1, .int v1), (2, .int v2), (3, .int v3)]) hx hb dX10_isFull_42 hl (by decide) rfl (fun ls hl => ?_)
      refine lv_iload_n hx hb dX10_isFull_44 rfl (lv_at hl 4 rfl) ?_
      refine lv_if_ne (tgt := 70) hx hb dX10_isFull_45 (by decide) (fun c5 => ?_) (fun c6 => ?_)
      · have hw := hw.1 c5
        refine lv_iconst (v := 1) hx hb dX10_isFull_70 (by decide) ?_
        refine lv_goto (tgt := 75) hx hb dX10_isFull_71 (by decide) ?_
        refine lv_istore_n (lv' := [(2, .int (1 : Int32)), (5, .int x4), (4, .int x3), (0, .ref h_p0), (1, .int v1), (3, .int v3)]) hx hb dX10_isFull_75 rfl hl (by decide) rfl (fun ls hl => ?_)
        obtain ⟨x7, ex7⟩ : ∃ y : Int32, y = v3 + (1 : Int32) := ⟨_, rfl⟩
        have hw := hw x7 ex7
        refine lv_iinc (v := x7) (lv' := [(3, .int x7), (2, .int (1 : Int32)), (5, .int x4), (4, .int x3), (0, .ref h_p0), (1, .int v1)]) hx hb dX10_isFull_76 hl (k := 5) rfl (by rw [ex7]; rfl) (by decide) rfl (fun ls hl => ?_)
        refine lv_goto (tgt := 4) hx hb dX10_isFull_79 (by decide) ?_
        exact ih _ _ hw _ _ _ hP hD hS (lv_sub hl [4, 5, 1, 0] rfl)
      · have hw := hw.2 c6
        refine lv_iload hx hb dX10_isFull_48 (lv_at hl 0 rfl) ?_
        refine lv_aload_n hx hb dX10_isFull_50 rfl (lv_at hl 2 rfl) ?_
        refine va_get (D := (dC, dI)) (ci := 10) (v := .ref (ad_p0 2)) (C := RX10) (T := TX10) (N := 50) hx hb hts iX10 hown hK hP 0 rfl rfl 2 (by decide) (hts (.fieldLink RX10 7 "NetHouseModel" "colour" "[I") (by decide +kernel)) (fun _ h9 => h9) rfl dX10_isFull_51 ?_
        refine lv_iload_n hx hb dX10_isFull_54 rfl (lv_at hl 5 rfl) ?_
        refine va_iald hx hb hK hP 1 0 rfl rfl hw.1 dX10_isFull_55 ?_
        have hw := hw.2
        refine lv_iconst (v := 1) hx hb dX10_isFull_56 (by decide) ?_
        refine lv_icmp_ne (tgt := 65) hx hb dX10_isFull_57 (by decide) (fun c8 => ?_) (fun c9 => ?_)
        · have hw := hw.1 c8
          refine lv_ldc (v := 1000000000) hx hb hown (hts (.constant RX10 200 (1000000000)) (by decide +kernel)) dX10_isFull_65 ?_
          refine lv_icmp_le (tgt := 74) hx hb dX10_isFull_67 (by decide) (fun c10 => ?_) (fun c11 => ?_)
          · have hw := hw.1 c10
            refine lv_iconst (v := 0) hx hb dX10_isFull_74 (by decide) ?_
            refine lv_istore_n (lv' := [(2, .int (0 : Int32)), (5, .int x4), (4, .int x3), (0, .ref h_p0), (1, .int v1), (3, .int v3)]) hx hb dX10_isFull_75 rfl hl (by decide) rfl (fun ls hl => ?_)
            obtain ⟨x12, ex12⟩ : ∃ y : Int32, y = v3 + (1 : Int32) := ⟨_, rfl⟩
            have hw := hw x12 ex12
            refine lv_iinc (v := x12) (lv' := [(3, .int x12), (2, .int (0 : Int32)), (5, .int x4), (4, .int x3), (0, .ref h_p0), (1, .int v1)]) hx hb dX10_isFull_76 hl (k := 5) rfl (by rw [ex12]; rfl) (by decide) rfl (fun ls hl => ?_)
            refine lv_goto (tgt := 4) hx hb dX10_isFull_79 (by decide) ?_
            exact ih _ _ hw _ _ _ hP hD hS (lv_sub hl [4, 5, 1, 0] rfl)
          · have hw := hw.2 c11
            refine lv_iconst (v := 1) hx hb dX10_isFull_70 (by decide) ?_
            refine lv_goto (tgt := 75) hx hb dX10_isFull_71 (by decide) ?_
            refine lv_istore_n (lv' := [(2, .int (1 : Int32)), (5, .int x4), (4, .int x3), (0, .ref h_p0), (1, .int v1), (3, .int v3)]) hx hb dX10_isFull_75 rfl hl (by decide) rfl (fun ls hl => ?_)
            obtain ⟨x13, ex13⟩ : ∃ y : Int32, y = v3 + (1 : Int32) := ⟨_, rfl⟩
            have hw := hw x13 ex13
            refine lv_iinc (v := x13) (lv' := [(3, .int x13), (2, .int (1 : Int32)), (5, .int x4), (4, .int x3), (0, .ref h_p0), (1, .int v1)]) hx hb dX10_isFull_76 hl (k := 5) rfl (by rw [ex13]; rfl) (by decide) rfl (fun ls hl => ?_)
            refine lv_goto (tgt := 4) hx hb dX10_isFull_79 (by decide) ?_
            exact ih _ _ hw _ _ _ hP hD hS (lv_sub hl [4, 5, 1, 0] rfl)
        · have hw := hw.2 c9
          refine lv_bipush (v := 20) hx hb dX10_isFull_60 (by decide) ?_
          refine lv_goto (tgt := 67) hx hb dX10_isFull_62 (by decide) ?_
          refine lv_icmp_le (tgt := 74) hx hb dX10_isFull_67 (by decide) (fun c14 => ?_) (fun c15 => ?_)
          · have hw := hw.1 c14
            refine lv_iconst (v := 0) hx hb dX10_isFull_74 (by decide) ?_
            refine lv_istore_n (lv' := [(2, .int (0 : Int32)), (5, .int x4), (4, .int x3), (0, .ref h_p0), (1, .int v1), (3, .int v3)]) hx hb dX10_isFull_75 rfl hl (by decide) rfl (fun ls hl => ?_)
            obtain ⟨x16, ex16⟩ : ∃ y : Int32, y = v3 + (1 : Int32) := ⟨_, rfl⟩
            have hw := hw x16 ex16
            refine lv_iinc (v := x16) (lv' := [(3, .int x16), (2, .int (0 : Int32)), (5, .int x4), (4, .int x3), (0, .ref h_p0), (1, .int v1)]) hx hb dX10_isFull_76 hl (k := 5) rfl (by rw [ex16]; rfl) (by decide) rfl (fun ls hl => ?_)
            refine lv_goto (tgt := 4) hx hb dX10_isFull_79 (by decide) ?_
            exact ih _ _ hw _ _ _ hP hD hS (lv_sub hl [4, 5, 1, 0] rfl)
          · have hw := hw.2 c15
            refine lv_iconst (v := 1) hx hb dX10_isFull_70 (by decide) ?_
            refine lv_goto (tgt := 75) hx hb dX10_isFull_71 (by decide) ?_
            refine lv_istore_n (lv' := [(2, .int (1 : Int32)), (5, .int x4), (4, .int x3), (0, .ref h_p0), (1, .int v1), (3, .int v3)]) hx hb dX10_isFull_75 rfl hl (by decide) rfl (fun ls hl => ?_)
            obtain ⟨x17, ex17⟩ : ∃ y : Int32, y = v3 + (1 : Int32) := ⟨_, rfl⟩
            have hw := hw x17 ex17
            refine lv_iinc (v := x17) (lv' := [(3, .int x17), (2, .int (1 : Int32)), (5, .int x4), (4, .int x3), (0, .ref h_p0), (1, .int v1)]) hx hb dX10_isFull_76 hl (k := 5) rfl (by rw [ex17]; rfl) (by decide) rfl (fun ls hl => ?_)
            refine lv_goto (tgt := 4) hx hb dX10_isFull_79 (by decide) ?_
            exact ih _ _ hw _ _ _ hP hD hS (lv_sub hl [4, 5, 1, 0] rfl)
set_option maxHeartbeats 4000000 in
set_option maxRecDepth 100000 in
theorem c_X10_isFull {l : Launch} {dC : Nat → ClassId} {dI : Nat → Nat → Nat} {sz : Nat} {cI cJ cZ : ClassId} {h_p0 : Nat} {ad_p0 : Nat → Nat} {p0_places : Int32} {p0_steps : Int32} {p0_pastFirst : Int32} {p0_past : Int32} {p0_goings : Int32} {p0_rowSize : Int32} {p0_ways : Int32} {p0_hasField : Int32} {p0_fieldSize : Int32} {p0_faultNow : Int32} {p0_hasTree : Int32} {p0_treeSize : Int32} {p0_weightCount : Int32} {p0_roundCount : Int32} {p0_setCount : Int32} {p0_colour : Nat → Int32} {p0_has : Nat → Int32} {p0_puts : Nat → Int32} {p0_takes : Nat → Int32} {a1 : Int32} {post : Int32 → Prop} (hw : w_X10_isFull p0_places p0_colour p0_has p0_puts p0_takes a1 post) : Met l yX10_isFull wsX10_isFull ({ frames := 0, cells := 0, slots := 0, locals := 0 }) (va_Pc [.ref h_p0, .int a1] (xPre (dC, dI) cI cJ cZ (wld_X10_isFull cI cJ cZ h_p0 ad_p0 p0_places p0_steps p0_pastFirst p0_past p0_goings p0_rowSize p0_ways p0_hasField p0_fieldSize p0_faultNow p0_hasTree p0_treeSize p0_weightCount p0_roundCount p0_setCount p0_colour p0_has p0_puts p0_takes) sz)) (q_X10_isFull dC dI cI cJ cZ h_p0 ad_p0 p0_places p0_steps p0_pastFirst p0_past p0_goings p0_rowSize p0_ways p0_hasField p0_fieldSize p0_faultNow p0_hasTree p0_treeSize p0_weightCount p0_roundCount p0_setCount p0_colour p0_has p0_puts p0_takes post (va_A (wld_X10_isFull cI cJ cZ h_p0 ad_p0 p0_places p0_steps p0_pastFirst p0_past p0_goings p0_rowSize p0_ways p0_hasField p0_fieldSize p0_faultNow p0_hasTree p0_treeSize p0_weightCount p0_roundCount p0_setCount p0_colour p0_has p0_puts p0_takes) sz)) 0 0 (va_A (wld_X10_isFull cI cJ cZ h_p0 ad_p0 p0_places p0_steps p0_pastFirst p0_past p0_goings p0_rowSize p0_ways p0_hasField p0_fieldSize p0_faultNow p0_hasTree p0_treeSize p0_weightCount p0_roundCount p0_setCount p0_colour p0_has p0_puts p0_takes) sz) := by
  refine x_met (cc := cX10_isFull) (maxL := 6) (ret := (some .boolean)) (own := RX10) (Qc := fun A => (q_X10_isFull dC dI cI cJ cZ h_p0 ad_p0 p0_places p0_steps p0_pastFirst p0_past p0_goings p0_rowSize p0_ways p0_hasField p0_fieldSize p0_faultNow p0_hasTree p0_treeSize p0_weightCount p0_roundCount p0_setCount p0_colour p0_has p0_puts p0_takes post A)) (by decide) rfl rfl (Nat.le_of_ble_eq_true rfl) ?_
  intro p e s m args below meth c A ls E0 hP hD hS hl
  obtain ⟨hx, hb, hr, hml, hown, hts, hlocks, hK, hA, n1, n2⟩ := id E0
  have iX10 : ∀ w ∈ u_ws RX10 TX10 50, w ∈ wsX10_isFull := fun w h => List.mem_cons_of_mem _ (List.mem_append_right _ h)
  have hS0 := hS
  have hl : lv_has ls 6 [(0, .ref h_p0), (1, .int a1)] := hl
  unfold w_X10_isFull at hw
  obtain ⟨H, hH⟩ : ∃ H, H = s.heap := ⟨_, rfl⟩
  have hS : va_S A s.heap H [] := by rw [hH]; exact hS
  have hP : va_P (dC, dI) vwCl (wld_X10_isFull cI cJ cZ h_p0 ad_p0 p0_places p0_steps p0_pastFirst p0_past p0_goings p0_rowSize p0_ways p0_hasField p0_fieldSize p0_faultNow p0_hasTree p0_treeSize p0_weightCount p0_roundCount p0_setCount p0_colour p0_has p0_puts p0_takes) H := by rw [hH]; exact hP
  suffices hG : W p l e ({ frames := 0, cells := 0, slots := 0, locals := 0 }) s m args below meth c H [] 0 0 (MQ below (q_X10_isFull dC dI cI cJ cZ h_p0 ad_p0 p0_places p0_steps p0_pastFirst p0_past p0_goings p0_rowSize p0_ways p0_hasField p0_fieldSize p0_faultNow p0_hasTree p0_treeSize p0_weightCount p0_roundCount p0_setCount p0_colour p0_has p0_puts p0_takes post A) args s 0 0 A) (F0 m 0 ls []) by rw [hH] at hG; exact hG
  clear hH
  refine lv_iconst (v := 0) hx hb dX10_isFull_0 (by decide) ?_
  refine lv_istore_n (lv' := [(2, .int (0 : Int32)), (0, .ref h_p0), (1, .int a1)]) hx hb dX10_isFull_1 rfl hl (by decide) rfl (fun ls hl => ?_)
  refine lv_iconst (v := 0) hx hb dX10_isFull_2 (by decide) ?_
  refine lv_istore_n (lv' := [(3, .int (0 : Int32)), (2, .int (0 : Int32)), (0, .ref h_p0), (1, .int a1)]) hx hb dX10_isFull_3 rfl hl (by decide) rfl (fun ls hl => ?_)
  obtain ⟨n18, hw⟩ := hw
  refine c_X10_isFull_L4 (l := l)  E0 ?_ n18 _ _ hw _ _ _ hP hD hS (lv_sub hl [2, 3, 1, 0] rfl)
  · intro v19 v20 H locs ls hw hP hD hS hl
    have hP : va_P (dC, dI) vwCl (wld_X10_isFull cI cJ cZ h_p0 ad_p0 p0_places p0_steps p0_pastFirst p0_past p0_goings p0_rowSize p0_ways p0_hasField p0_fieldSize p0_faultNow p0_hasTree p0_treeSize p0_weightCount p0_roundCount p0_setCount p0_colour p0_has p0_puts p0_takes) H := hP
    have hD : va_D A (wld_X10_isFull cI cJ cZ h_p0 ad_p0 p0_places p0_steps p0_pastFirst p0_past p0_goings p0_rowSize p0_ways p0_hasField p0_fieldSize p0_faultNow p0_hasTree p0_treeSize p0_weightCount p0_roundCount p0_setCount p0_colour p0_has p0_puts p0_takes) := hD
    refine lv_iload_n hx hb dX10_isFull_82 rfl (lv_at hl 0 rfl) ?_
    have hv := hw.1
    have hw := hw.2
    exact x_zret (w1 := fun (u : Unit) => (wld_X10_isFull cI cJ cZ h_p0 ad_p0 p0_places p0_steps p0_pastFirst p0_past p0_goings p0_rowSize p0_ways p0_hasField p0_fieldSize p0_faultNow p0_hasTree p0_treeSize p0_weightCount p0_roundCount p0_setCount p0_colour p0_has p0_puts p0_takes)) hx hb hr hlocks hv () hw hP hD hS dX10_isFull_83
abbrev wld_X10_keep (cI cJ cZ : ClassId) (h_p0 : Nat) (ad_p0 : Nat → Nat) (p0_places : Int32) (p0_steps : Int32) (p0_pastFirst : Int32) (p0_past : Int32) (p0_goings : Int32) (p0_rowSize : Int32) (p0_ways : Int32) (p0_hasField : Int32) (p0_fieldSize : Int32) (p0_faultNow : Int32) (p0_hasTree : Int32) (p0_treeSize : Int32) (p0_weightCount : Int32) (p0_roundCount : Int32) (p0_setCount : Int32) (p0_has : Nat → Int32) (p0_pastHas : Nat → Int32) (p0_pastStep : Nat → Int32) (p0_pastThings : Nat → Int32) (p0_things : Nat → Int32) : va_W := [(h_p0, .inr (10, [.int p0_places, .int p0_steps, .ref (ad_p0 2), .ref (ad_p0 3), .ref (ad_p0 4), .ref (ad_p0 5), .ref (ad_p0 6), .ref (ad_p0 7), .ref (ad_p0 8), .ref (ad_p0 9), .ref (ad_p0 10), .ref (ad_p0 11), .ref (ad_p0 12), .ref (ad_p0 13), .ref (ad_p0 14), .int p0_pastFirst, .int p0_past, .int p0_goings, .int p0_rowSize, .ref (ad_p0 19), .ref (ad_p0 20), .int p0_ways, .ref (ad_p0 22), .ref (ad_p0 23), .int p0_hasField, .int p0_fieldSize, .ref (ad_p0 26), .ref (ad_p0 27), .ref (ad_p0 28), .ref (ad_p0 29), .ref (ad_p0 30), .ref (ad_p0 31), .ref (ad_p0 32), .int p0_faultNow, .int p0_hasTree, .int p0_treeSize, .ref (ad_p0 36), .ref (ad_p0 37), .ref (ad_p0 38), .ref (ad_p0 39), .ref (ad_p0 40), .ref (ad_p0 41), .ref (ad_p0 42), .int p0_weightCount, .ref (ad_p0 44), .int p0_roundCount, .ref (ad_p0 46), .int p0_setCount, .ref (ad_p0 48), .ref (ad_p0 49)])), ((ad_p0 10), .inl (cI, 16, .inl p0_has)), ((ad_p0 13), .inl (cI, 4096, .inl p0_pastHas)), ((ad_p0 12), .inl (cI, 256, .inl p0_pastStep)), ((ad_p0 14), .inl (cI, 81920, .inl p0_pastThings)), ((ad_p0 11), .inl (cI, 320, .inl p0_things))]
abbrev q_X10_keep (dC : Nat → ClassId) (dI : Nat → Nat → Nat) (cI cJ cZ : ClassId) (h_p0 : Nat) (ad_p0 : Nat → Nat) (p0_places : Int32) (p0_steps : Int32) (p0_pastFirst : Int32) (p0_past : Int32) (p0_goings : Int32) (p0_rowSize : Int32) (p0_ways : Int32) (p0_hasField : Int32) (p0_fieldSize : Int32) (p0_faultNow : Int32) (p0_hasTree : Int32) (p0_treeSize : Int32) (p0_weightCount : Int32) (p0_roundCount : Int32) (p0_setCount : Int32) (p0_has : Nat → Int32) (p0_pastHas : Nat → Int32) (p0_pastStep : Nat → Int32) (p0_pastThings : Nat → Int32) (p0_things : Nat → Int32) (post : (Int32) → (Int32) → (Nat → Int32) → (Nat → Int32) → (Nat → Int32) → Prop) (A : Nat → Prop) : Array Value → State → Outcome → State → Prop := va_Qv (fun (u : (Int32) × (Int32) × (Nat → Int32) × (Nat → Int32) × (Nat → Int32)) => post (u.1) (u.2.1) (u.2.2.1) (u.2.2.2.1) (u.2.2.2.2)) (fun (u : (Int32) × (Int32) × (Nat → Int32) × (Nat → Int32) × (Nat → Int32)) t => xPost (dC, dI) A (wld_X10_keep cI cJ cZ h_p0 ad_p0 p0_places p0_steps (u.2.1) (u.1) p0_goings p0_rowSize p0_ways p0_hasField p0_fieldSize p0_faultNow p0_hasTree p0_treeSize p0_weightCount p0_roundCount p0_setCount p0_has (u.2.2.1) (u.2.2.2.1) (u.2.2.2.2) p0_things) t) A
def w_X10_keep_L67b (v2 : Int32) (p0_past : Int32) (p0_pastFirst : Int32) (p0_has : Nat → Int32) (p0_pastStep : Nat → Int32) (p0_pastThings : Nat → Int32) (p0_things : Nat → Int32) (post : (Int32) → (Int32) → (Nat → Int32) → (Nat → Int32) → (Nat → Int32) → Prop) (K : (Int32) → (Nat → Int32) → Prop) (rec : (Int32) → (Nat → Int32) → Prop) (v3 : Int32) (p0_pastHas : Nat → Int32) : Prop :=
    ((16 : Int32) ≤ v3 →
      K v3 p0_pastHas) ∧
    (¬ (16 : Int32) ≤ v3 →
      vp_in v3 16 ∧
      vp_in (((16 : Int32) * v2) + v3) 4096 ∧
      ∀ x7 : Int32, x7 = v3 + (1 : Int32) →
      rec x7 (upd p0_pastHas (((16 : Int32) * v2) + v3).toNatClampNeg (p0_has v3.toNatClampNeg)))
def w_X10_keep_L67 (v2 : Int32) (p0_past : Int32) (p0_pastFirst : Int32) (p0_has : Nat → Int32) (p0_pastStep : Nat → Int32) (p0_pastThings : Nat → Int32) (p0_things : Nat → Int32) (post : (Int32) → (Int32) → (Nat → Int32) → (Nat → Int32) → (Nat → Int32) → Prop) (K : (Int32) → (Nat → Int32) → Prop) : Nat → (Int32) → (Nat → Int32) → Prop
  | 0, _, _ => False
  | n + 1, v3, p0_pastHas => w_X10_keep_L67b v2 p0_past p0_pastFirst p0_has p0_pastStep p0_pastThings p0_things post K (w_X10_keep_L67 v2 p0_past p0_pastFirst p0_has p0_pastStep p0_pastThings p0_things post K n) v3 p0_pastHas
def w_X10_keep_L98b (v2 : Int32) (p0_past : Int32) (p0_pastFirst : Int32) (p0_has : Nat → Int32) (p0_pastHas : Nat → Int32) (p0_pastStep : Nat → Int32) (p0_things : Nat → Int32) (post : (Int32) → (Int32) → (Nat → Int32) → (Nat → Int32) → (Nat → Int32) → Prop) (K : (Int32) → (Nat → Int32) → Prop) (rec : (Int32) → (Nat → Int32) → Prop) (v3 : Int32) (p0_pastThings : Nat → Int32) : Prop :=
    ((320 : Int32) ≤ v3 →
      K v3 p0_pastThings) ∧
    (¬ (320 : Int32) ≤ v3 →
      vp_in v3 320 ∧
      vp_in (((320 : Int32) * v2) + v3) 81920 ∧
      ∀ x13 : Int32, x13 = v3 + (1 : Int32) →
      rec x13 (upd p0_pastThings (((320 : Int32) * v2) + v3).toNatClampNeg (p0_things v3.toNatClampNeg)))
def w_X10_keep_L98 (v2 : Int32) (p0_past : Int32) (p0_pastFirst : Int32) (p0_has : Nat → Int32) (p0_pastHas : Nat → Int32) (p0_pastStep : Nat → Int32) (p0_things : Nat → Int32) (post : (Int32) → (Int32) → (Nat → Int32) → (Nat → Int32) → (Nat → Int32) → Prop) (K : (Int32) → (Nat → Int32) → Prop) : Nat → (Int32) → (Nat → Int32) → Prop
  | 0, _, _ => False
  | n + 1, v3, p0_pastThings => w_X10_keep_L98b v2 p0_past p0_pastFirst p0_has p0_pastHas p0_pastStep p0_things post K (w_X10_keep_L98 v2 p0_past p0_pastFirst p0_has p0_pastHas p0_pastStep p0_things post K n) v3 p0_pastThings
def w_X10_keep (p0_past : Int32) (p0_pastFirst : Int32) (p0_has : Nat → Int32) (p0_pastHas : Nat → Int32) (p0_pastStep : Nat → Int32) (p0_pastThings : Nat → Int32) (p0_things : Nat → Int32) (a1 : Int32) (post : (Int32) → (Int32) → (Nat → Int32) → (Nat → Int32) → (Nat → Int32) → Prop) : Prop :=
  (¬ p0_past = (256 : Int32) →
    ∀ x3 : Int32, x3 = ((p0_pastFirst + p0_past) - (p0_pastFirst + p0_past) / (256 : Int32) * (256 : Int32)) →
    ∀ x4 : Int32, x4 = (p0_past + (1 : Int32)) →
    vp_in x3 256 ∧
    ∃ n : Nat, w_X10_keep_L67 x3 x4 p0_pastFirst p0_has (upd p0_pastStep x3.toNatClampNeg a1) p0_pastThings p0_things post (fun v9 s10 =>
        ∃ n : Nat, w_X10_keep_L98 x3 x4 p0_pastFirst p0_has s10 (upd p0_pastStep x3.toNatClampNeg a1) p0_things post (fun v15 s16 =>
            (post x4 p0_pastFirst s10 (upd p0_pastStep x3.toNatClampNeg a1) s16)) n (0 : Int32) p0_pastThings) n (0 : Int32) p0_pastHas) ∧
  (p0_past = (256 : Int32) →
    ∀ x17 : Int32, x17 = ((p0_pastFirst + (1 : Int32)) - (p0_pastFirst + (1 : Int32)) / (256 : Int32) * (256 : Int32)) →
    ∀ x18 : Int32, x18 = (p0_past - (1 : Int32)) →
    ∀ x19 : Int32, x19 = ((x17 + x18) - (x17 + x18) / (256 : Int32) * (256 : Int32)) →
    ∀ x20 : Int32, x20 = (x18 + (1 : Int32)) →
    vp_in x19 256 ∧
    ∃ n : Nat, w_X10_keep_L67 x19 x20 x17 p0_has (upd p0_pastStep x19.toNatClampNeg a1) p0_pastThings p0_things post (fun v22 s23 =>
        ∃ n : Nat, w_X10_keep_L98 x19 x20 x17 p0_has s23 (upd p0_pastStep x19.toNatClampNeg a1) p0_things post (fun v25 s26 =>
            (post x20 x17 s23 (upd p0_pastStep x19.toNatClampNeg a1) s26)) n (0 : Int32) p0_pastThings) n (0 : Int32) p0_pastHas)
set_option maxHeartbeats 4000000 in
set_option maxRecDepth 100000 in
theorem c_X10_keep_L67 {p : Program} {l : Launch} {e : Env} {s : State} {m : MethodId} {args : Array Value} {below : List Frame} {meth : Method} {c : Code} {dC : Nat → ClassId} {dI : Nat → Nat → Nat} {A : Nat → Prop} {cI cJ cZ : ClassId} {h_p0 : Nat} {ad_p0 : Nat → Nat} {p0_places : Int32} {p0_steps : Int32} {p0_pastFirst : Int32} {p0_past : Int32} {p0_goings : Int32} {p0_rowSize : Int32} {p0_ways : Int32} {p0_hasField : Int32} {p0_fieldSize : Int32} {p0_faultNow : Int32} {p0_hasTree : Int32} {p0_treeSize : Int32} {p0_weightCount : Int32} {p0_roundCount : Int32} {p0_setCount : Int32} {p0_has : Nat → Int32} {p0_pastStep : Nat → Int32} {p0_pastThings : Nat → Int32} {p0_things : Nat → Int32} {v2 : Int32} {z_p0_pastHas : Nat → Int32} {post : (Int32) → (Int32) → (Nat → Int32) → (Nat → Int32) → (Nat → Int32) → Prop} {K : (Int32) → (Nat → Int32) → Prop} (E0 : xEnv p s m args meth c cX10_keep none 4 RX10 wsX10_keep (dC, dI) cI cJ cZ A) (hk : ∀ (v3 : Int32) (p0_pastHas : Nat → Int32) (H : Heap) (locs : List Loc) (ls : Array Slot), K v3 p0_pastHas → va_P (dC, dI) vwCl (wld_X10_keep cI cJ cZ h_p0 ad_p0 p0_places p0_steps p0_pastFirst p0_past p0_goings p0_rowSize p0_ways p0_hasField p0_fieldSize p0_faultNow p0_hasTree p0_treeSize p0_weightCount p0_roundCount p0_setCount p0_has p0_pastHas p0_pastStep p0_pastThings p0_things) H → va_D A (wld_X10_keep cI cJ cZ h_p0 ad_p0 p0_places p0_steps p0_pastFirst p0_past p0_goings p0_rowSize p0_ways p0_hasField p0_fieldSize p0_faultNow p0_hasTree p0_treeSize p0_weightCount p0_roundCount p0_setCount p0_has p0_pastHas p0_pastStep p0_pastThings p0_things) → va_S A s.heap H locs → lv_has ls 4 [(0, .ref h_p0), (2, .int v2)] → W p l e ({ frames := 0, cells := 0, slots := 0, locals := 0 }) s m args below meth c H locs 0 0 (MQ below (q_X10_keep dC dI cI cJ cZ h_p0 ad_p0 p0_places p0_steps p0_pastFirst p0_past p0_goings p0_rowSize p0_ways p0_hasField p0_fieldSize p0_faultNow p0_hasTree p0_treeSize p0_weightCount p0_roundCount p0_setCount p0_has z_p0_pastHas p0_pastStep p0_pastThings p0_things post A) args s 0 0 A) (F0 m 96 ls [])) : ∀ (n : Nat) (v3 : Int32) (p0_pastHas : Nat → Int32), w_X10_keep_L67 v2 p0_past p0_pastFirst p0_has p0_pastStep p0_pastThings p0_things post K n v3 p0_pastHas → ∀ (H : Heap) (locs : List Loc) (ls : Array Slot), va_P (dC, dI) vwCl (wld_X10_keep cI cJ cZ h_p0 ad_p0 p0_places p0_steps p0_pastFirst p0_past p0_goings p0_rowSize p0_ways p0_hasField p0_fieldSize p0_faultNow p0_hasTree p0_treeSize p0_weightCount p0_roundCount p0_setCount p0_has p0_pastHas p0_pastStep p0_pastThings p0_things) H → va_D A (wld_X10_keep cI cJ cZ h_p0 ad_p0 p0_places p0_steps p0_pastFirst p0_past p0_goings p0_rowSize p0_ways p0_hasField p0_fieldSize p0_faultNow p0_hasTree p0_treeSize p0_weightCount p0_roundCount p0_setCount p0_has p0_pastHas p0_pastStep p0_pastThings p0_things) → va_S A s.heap H locs → lv_has ls 4 [(0, .ref h_p0), (2, .int v2), (3, .int v3)] → W p l e ({ frames := 0, cells := 0, slots := 0, locals := 0 }) s m args below meth c H locs 0 0 (MQ below (q_X10_keep dC dI cI cJ cZ h_p0 ad_p0 p0_places p0_steps p0_pastFirst p0_past p0_goings p0_rowSize p0_ways p0_hasField p0_fieldSize p0_faultNow p0_hasTree p0_treeSize p0_weightCount p0_roundCount p0_setCount p0_has z_p0_pastHas p0_pastStep p0_pastThings p0_things post A) args s 0 0 A) (F0 m 67 ls []) := by
  obtain ⟨hx, hb, hr, hml, hown, hts, hlocks, hK, hA, n1, n2⟩ := id E0
  have iX10 : ∀ w ∈ u_ws RX10 TX10 50, w ∈ wsX10_keep := fun w h => List.mem_cons_of_mem _ (List.mem_append_right _ h)
  intro n
  induction n with
  | zero => intro v3 p0_pastHas hw; exact hw.elim
  | succ n ih =>
    intro v3 p0_pastHas hw H locs ls hP hD hS hl
    have hw : w_X10_keep_L67b v2 p0_past p0_pastFirst p0_has p0_pastStep p0_pastThings p0_things post K (w_X10_keep_L67 v2 p0_past p0_pastFirst p0_has p0_pastStep p0_pastThings p0_things post K n) v3 p0_pastHas := hw
    unfold w_X10_keep_L67b at hw
    refine lv_iload_n hx hb dX10_keep_67 rfl (lv_at hl 2 rfl) ?_
    refine lv_bipush (v := 16) hx hb dX10_keep_68 (by decide) ?_
    refine lv_icmp_ge (tgt := 96) hx hb dX10_keep_70 (by decide) (fun c5 => ?_) (fun c6 => ?_)
    · have hw := hw.1 c5
      exact hk _ _ _ _ _ hw hP hD hS (lv_sub hl [0, 1] rfl)
    · have hw := hw.2 c6
      refine lv_aload_n hx hb dX10_keep_73 rfl (lv_at hl 0 rfl) ?_
      refine va_get (D := (dC, dI)) (ci := 10) (v := .ref (ad_p0 13)) (C := RX10) (T := TX10) (N := 50) hx hb hts iX10 hown hK hP 0 rfl rfl 13 (by decide) (hts (.fieldLink RX10 43 "NetHouseModel" "pastHas" "[I") (by decide +kernel)) (fun _ h9 => h9) rfl dX10_keep_74 ?_
      refine lv_bipush (v := 16) hx hb dX10_keep_77 (by decide) ?_
      refine lv_iload_n hx hb dX10_keep_79 rfl (lv_at hl 1 rfl) ?_
      refine lv_imul hx hb dX10_keep_80 ?_
      refine lv_iload_n hx hb dX10_keep_81 rfl (lv_at hl 2 rfl) ?_
      refine lv_iadd hx hb dX10_keep_82 ?_
      refine lv_aload_n hx hb dX10_keep_83 rfl (lv_at hl 0 rfl) ?_
      refine va_get (D := (dC, dI)) (ci := 10) (v := .ref (ad_p0 10)) (C := RX10) (T := TX10) (N := 50) hx hb hts iX10 hown hK hP 0 rfl rfl 10 (by decide) (hts (.fieldLink RX10 34 "NetHouseModel" "has" "[I") (by decide +kernel)) (fun _ h9 => h9) rfl dX10_keep_84 ?_
      refine lv_iload_n hx hb dX10_keep_87 rfl (lv_at hl 2 rfl) ?_
      refine va_iald hx hb hK hP 1 0 rfl rfl hw.1 dX10_keep_88 ?_
      have hw := hw.2
      refine va_iast hx hb hK hP hD hS 2 0 rfl rfl hw.1 dX10_keep_89 (fun H locs hP hD hS => ?_)
      have hw := hw.2
      have hP : va_P (dC, dI) vwCl (wld_X10_keep cI cJ cZ h_p0 ad_p0 p0_places p0_steps p0_pastFirst p0_past p0_goings p0_rowSize p0_ways p0_hasField p0_fieldSize p0_faultNow p0_hasTree p0_treeSize p0_weightCount p0_roundCount p0_setCount p0_has (upd p0_pastHas (((16 : Int32) * v2) + v3).toNatClampNeg (p0_has v3.toNatClampNeg)) p0_pastStep p0_pastThings p0_things) H := hP
      have hD : va_D A (wld_X10_keep cI cJ cZ h_p0 ad_p0 p0_places p0_steps p0_pastFirst p0_past p0_goings p0_rowSize p0_ways p0_hasField p0_fieldSize p0_faultNow p0_hasTree p0_treeSize p0_weightCount p0_roundCount p0_setCount p0_has (upd p0_pastHas (((16 : Int32) * v2) + v3).toNatClampNeg (p0_has v3.toNatClampNeg)) p0_pastStep p0_pastThings p0_things) := hD
      obtain ⟨x7, ex7⟩ : ∃ y : Int32, y = v3 + (1 : Int32) := ⟨_, rfl⟩
      have hw := hw x7 ex7
      refine lv_iinc (v := x7) (lv' := [(3, .int x7), (0, .ref h_p0), (2, .int v2)]) hx hb dX10_keep_90 hl (k := 2) rfl (by rw [ex7]; rfl) (by decide) rfl (fun ls hl => ?_)
      refine lv_goto (tgt := 67) hx hb dX10_keep_93 (by decide) ?_
      exact ih _ _ hw _ _ _ hP hD hS (lv_sub hl [1, 2, 0] rfl)
set_option maxHeartbeats 4000000 in
set_option maxRecDepth 100000 in
theorem c_X10_keep_L98 {p : Program} {l : Launch} {e : Env} {s : State} {m : MethodId} {args : Array Value} {below : List Frame} {meth : Method} {c : Code} {dC : Nat → ClassId} {dI : Nat → Nat → Nat} {A : Nat → Prop} {cI cJ cZ : ClassId} {h_p0 : Nat} {ad_p0 : Nat → Nat} {p0_places : Int32} {p0_steps : Int32} {p0_pastFirst : Int32} {p0_past : Int32} {p0_goings : Int32} {p0_rowSize : Int32} {p0_ways : Int32} {p0_hasField : Int32} {p0_fieldSize : Int32} {p0_faultNow : Int32} {p0_hasTree : Int32} {p0_treeSize : Int32} {p0_weightCount : Int32} {p0_roundCount : Int32} {p0_setCount : Int32} {p0_has : Nat → Int32} {p0_pastHas : Nat → Int32} {p0_pastStep : Nat → Int32} {p0_things : Nat → Int32} {v2 : Int32} {z_p0_pastThings : Nat → Int32} {post : (Int32) → (Int32) → (Nat → Int32) → (Nat → Int32) → (Nat → Int32) → Prop} {K : (Int32) → (Nat → Int32) → Prop} (E0 : xEnv p s m args meth c cX10_keep none 4 RX10 wsX10_keep (dC, dI) cI cJ cZ A) (hk : ∀ (v3 : Int32) (p0_pastThings : Nat → Int32) (H : Heap) (locs : List Loc) (ls : Array Slot), K v3 p0_pastThings → va_P (dC, dI) vwCl (wld_X10_keep cI cJ cZ h_p0 ad_p0 p0_places p0_steps p0_pastFirst p0_past p0_goings p0_rowSize p0_ways p0_hasField p0_fieldSize p0_faultNow p0_hasTree p0_treeSize p0_weightCount p0_roundCount p0_setCount p0_has p0_pastHas p0_pastStep p0_pastThings p0_things) H → va_D A (wld_X10_keep cI cJ cZ h_p0 ad_p0 p0_places p0_steps p0_pastFirst p0_past p0_goings p0_rowSize p0_ways p0_hasField p0_fieldSize p0_faultNow p0_hasTree p0_treeSize p0_weightCount p0_roundCount p0_setCount p0_has p0_pastHas p0_pastStep p0_pastThings p0_things) → va_S A s.heap H locs → lv_has ls 4 [] → W p l e ({ frames := 0, cells := 0, slots := 0, locals := 0 }) s m args below meth c H locs 0 0 (MQ below (q_X10_keep dC dI cI cJ cZ h_p0 ad_p0 p0_places p0_steps p0_pastFirst p0_past p0_goings p0_rowSize p0_ways p0_hasField p0_fieldSize p0_faultNow p0_hasTree p0_treeSize p0_weightCount p0_roundCount p0_setCount p0_has p0_pastHas p0_pastStep z_p0_pastThings p0_things post A) args s 0 0 A) (F0 m 129 ls [])) : ∀ (n : Nat) (v3 : Int32) (p0_pastThings : Nat → Int32), w_X10_keep_L98 v2 p0_past p0_pastFirst p0_has p0_pastHas p0_pastStep p0_things post K n v3 p0_pastThings → ∀ (H : Heap) (locs : List Loc) (ls : Array Slot), va_P (dC, dI) vwCl (wld_X10_keep cI cJ cZ h_p0 ad_p0 p0_places p0_steps p0_pastFirst p0_past p0_goings p0_rowSize p0_ways p0_hasField p0_fieldSize p0_faultNow p0_hasTree p0_treeSize p0_weightCount p0_roundCount p0_setCount p0_has p0_pastHas p0_pastStep p0_pastThings p0_things) H → va_D A (wld_X10_keep cI cJ cZ h_p0 ad_p0 p0_places p0_steps p0_pastFirst p0_past p0_goings p0_rowSize p0_ways p0_hasField p0_fieldSize p0_faultNow p0_hasTree p0_treeSize p0_weightCount p0_roundCount p0_setCount p0_has p0_pastHas p0_pastStep p0_pastThings p0_things) → va_S A s.heap H locs → lv_has ls 4 [(0, .ref h_p0), (2, .int v2), (3, .int v3)] → W p l e ({ frames := 0, cells := 0, slots := 0, locals := 0 }) s m args below meth c H locs 0 0 (MQ below (q_X10_keep dC dI cI cJ cZ h_p0 ad_p0 p0_places p0_steps p0_pastFirst p0_past p0_goings p0_rowSize p0_ways p0_hasField p0_fieldSize p0_faultNow p0_hasTree p0_treeSize p0_weightCount p0_roundCount p0_setCount p0_has p0_pastHas p0_pastStep z_p0_pastThings p0_things post A) args s 0 0 A) (F0 m 98 ls []) := by
  obtain ⟨hx, hb, hr, hml, hown, hts, hlocks, hK, hA, n1, n2⟩ := id E0
  have iX10 : ∀ w ∈ u_ws RX10 TX10 50, w ∈ wsX10_keep := fun w h => List.mem_cons_of_mem _ (List.mem_append_right _ h)
  intro n
  induction n with
  | zero => intro v3 p0_pastThings hw; exact hw.elim
  | succ n ih =>
    intro v3 p0_pastThings hw H locs ls hP hD hS hl
    have hw : w_X10_keep_L98b v2 p0_past p0_pastFirst p0_has p0_pastHas p0_pastStep p0_things post K (w_X10_keep_L98 v2 p0_past p0_pastFirst p0_has p0_pastHas p0_pastStep p0_things post K n) v3 p0_pastThings := hw
    unfold w_X10_keep_L98b at hw
    refine lv_iload_n hx hb dX10_keep_98 rfl (lv_at hl 2 rfl) ?_
    refine lv_sipush (v := 320) hx hb dX10_keep_99 (by decide) ?_
    refine lv_icmp_ge (tgt := 129) hx hb dX10_keep_102 (by decide) (fun c11 => ?_) (fun c12 => ?_)
    · have hw := hw.1 c11
      exact hk _ _ _ _ _ hw hP hD hS (lv_sub hl [] rfl)
    · have hw := hw.2 c12
      refine lv_aload_n hx hb dX10_keep_105 rfl (lv_at hl 0 rfl) ?_
      refine va_get (D := (dC, dI)) (ci := 10) (v := .ref (ad_p0 14)) (C := RX10) (T := TX10) (N := 50) hx hb hts iX10 hown hK hP 0 rfl rfl 14 (by decide) (hts (.fieldLink RX10 47 "NetHouseModel" "pastThings" "[I") (by decide +kernel)) (fun _ h9 => h9) rfl dX10_keep_106 ?_
      refine lv_sipush (v := 320) hx hb dX10_keep_109 (by decide) ?_
      refine lv_iload_n hx hb dX10_keep_112 rfl (lv_at hl 1 rfl) ?_
      refine lv_imul hx hb dX10_keep_113 ?_
      refine lv_iload_n hx hb dX10_keep_114 rfl (lv_at hl 2 rfl) ?_
      refine lv_iadd hx hb dX10_keep_115 ?_
      refine lv_aload_n hx hb dX10_keep_116 rfl (lv_at hl 0 rfl) ?_
      refine va_get (D := (dC, dI)) (ci := 10) (v := .ref (ad_p0 11)) (C := RX10) (T := TX10) (N := 50) hx hb hts iX10 hown hK hP 0 rfl rfl 11 (by decide) (hts (.fieldLink RX10 37 "NetHouseModel" "things" "[I") (by decide +kernel)) (fun _ h9 => h9) rfl dX10_keep_117 ?_
      refine lv_iload_n hx hb dX10_keep_120 rfl (lv_at hl 2 rfl) ?_
      refine va_iald hx hb hK hP 5 0 rfl rfl hw.1 dX10_keep_121 ?_
      have hw := hw.2
      refine va_iast hx hb hK hP hD hS 4 0 rfl rfl hw.1 dX10_keep_122 (fun H locs hP hD hS => ?_)
      have hw := hw.2
      have hP : va_P (dC, dI) vwCl (wld_X10_keep cI cJ cZ h_p0 ad_p0 p0_places p0_steps p0_pastFirst p0_past p0_goings p0_rowSize p0_ways p0_hasField p0_fieldSize p0_faultNow p0_hasTree p0_treeSize p0_weightCount p0_roundCount p0_setCount p0_has p0_pastHas p0_pastStep (upd p0_pastThings (((320 : Int32) * v2) + v3).toNatClampNeg (p0_things v3.toNatClampNeg)) p0_things) H := hP
      have hD : va_D A (wld_X10_keep cI cJ cZ h_p0 ad_p0 p0_places p0_steps p0_pastFirst p0_past p0_goings p0_rowSize p0_ways p0_hasField p0_fieldSize p0_faultNow p0_hasTree p0_treeSize p0_weightCount p0_roundCount p0_setCount p0_has p0_pastHas p0_pastStep (upd p0_pastThings (((320 : Int32) * v2) + v3).toNatClampNeg (p0_things v3.toNatClampNeg)) p0_things) := hD
      obtain ⟨x13, ex13⟩ : ∃ y : Int32, y = v3 + (1 : Int32) := ⟨_, rfl⟩
      have hw := hw x13 ex13
      refine lv_iinc (v := x13) (lv' := [(3, .int x13), (0, .ref h_p0), (2, .int v2)]) hx hb dX10_keep_123 hl (k := 2) rfl (by rw [ex13]; rfl) (by decide) rfl (fun ls hl => ?_)
      refine lv_goto (tgt := 98) hx hb dX10_keep_126 (by decide) ?_
      exact ih _ _ hw _ _ _ hP hD hS (lv_sub hl [1, 2, 0] rfl)
set_option maxHeartbeats 4000000 in
set_option maxRecDepth 100000 in
theorem c_X10_keep {l : Launch} {dC : Nat → ClassId} {dI : Nat → Nat → Nat} {sz : Nat} {cI cJ cZ : ClassId} {h_p0 : Nat} {ad_p0 : Nat → Nat} {p0_places : Int32} {p0_steps : Int32} {p0_pastFirst : Int32} {p0_past : Int32} {p0_goings : Int32} {p0_rowSize : Int32} {p0_ways : Int32} {p0_hasField : Int32} {p0_fieldSize : Int32} {p0_faultNow : Int32} {p0_hasTree : Int32} {p0_treeSize : Int32} {p0_weightCount : Int32} {p0_roundCount : Int32} {p0_setCount : Int32} {p0_has : Nat → Int32} {p0_pastHas : Nat → Int32} {p0_pastStep : Nat → Int32} {p0_pastThings : Nat → Int32} {p0_things : Nat → Int32} {a1 : Int32} {post : (Int32) → (Int32) → (Nat → Int32) → (Nat → Int32) → (Nat → Int32) → Prop} (hw : w_X10_keep p0_past p0_pastFirst p0_has p0_pastHas p0_pastStep p0_pastThings p0_things a1 post) : Met l yX10_keep wsX10_keep ({ frames := 0, cells := 0, slots := 0, locals := 0 }) (va_Pc [.ref h_p0, .int a1] (xPre (dC, dI) cI cJ cZ (wld_X10_keep cI cJ cZ h_p0 ad_p0 p0_places p0_steps p0_pastFirst p0_past p0_goings p0_rowSize p0_ways p0_hasField p0_fieldSize p0_faultNow p0_hasTree p0_treeSize p0_weightCount p0_roundCount p0_setCount p0_has p0_pastHas p0_pastStep p0_pastThings p0_things) sz)) (q_X10_keep dC dI cI cJ cZ h_p0 ad_p0 p0_places p0_steps p0_pastFirst p0_past p0_goings p0_rowSize p0_ways p0_hasField p0_fieldSize p0_faultNow p0_hasTree p0_treeSize p0_weightCount p0_roundCount p0_setCount p0_has p0_pastHas p0_pastStep p0_pastThings p0_things post (va_A (wld_X10_keep cI cJ cZ h_p0 ad_p0 p0_places p0_steps p0_pastFirst p0_past p0_goings p0_rowSize p0_ways p0_hasField p0_fieldSize p0_faultNow p0_hasTree p0_treeSize p0_weightCount p0_roundCount p0_setCount p0_has p0_pastHas p0_pastStep p0_pastThings p0_things) sz)) 0 0 (va_A (wld_X10_keep cI cJ cZ h_p0 ad_p0 p0_places p0_steps p0_pastFirst p0_past p0_goings p0_rowSize p0_ways p0_hasField p0_fieldSize p0_faultNow p0_hasTree p0_treeSize p0_weightCount p0_roundCount p0_setCount p0_has p0_pastHas p0_pastStep p0_pastThings p0_things) sz) := by
  refine x_met (cc := cX10_keep) (maxL := 4) (ret := none) (own := RX10) (Qc := fun A => (q_X10_keep dC dI cI cJ cZ h_p0 ad_p0 p0_places p0_steps p0_pastFirst p0_past p0_goings p0_rowSize p0_ways p0_hasField p0_fieldSize p0_faultNow p0_hasTree p0_treeSize p0_weightCount p0_roundCount p0_setCount p0_has p0_pastHas p0_pastStep p0_pastThings p0_things post A)) (by decide) rfl rfl (Nat.le_of_ble_eq_true rfl) ?_
  intro p e s m args below meth c A ls E0 hP hD hS hl
  obtain ⟨hx, hb, hr, hml, hown, hts, hlocks, hK, hA, n1, n2⟩ := id E0
  have iX10 : ∀ w ∈ u_ws RX10 TX10 50, w ∈ wsX10_keep := fun w h => List.mem_cons_of_mem _ (List.mem_append_right _ h)
  have hS0 := hS
  have hl : lv_has ls 4 [(0, .ref h_p0), (1, .int a1)] := hl
  unfold w_X10_keep at hw
  obtain ⟨H, hH⟩ : ∃ H, H = s.heap := ⟨_, rfl⟩
  have hS : va_S A s.heap H [] := by rw [hH]; exact hS
  have hP : va_P (dC, dI) vwCl (wld_X10_keep cI cJ cZ h_p0 ad_p0 p0_places p0_steps p0_pastFirst p0_past p0_goings p0_rowSize p0_ways p0_hasField p0_fieldSize p0_faultNow p0_hasTree p0_treeSize p0_weightCount p0_roundCount p0_setCount p0_has p0_pastHas p0_pastStep p0_pastThings p0_things) H := by rw [hH]; exact hP
  suffices hG : W p l e ({ frames := 0, cells := 0, slots := 0, locals := 0 }) s m args below meth c H [] 0 0 (MQ below (q_X10_keep dC dI cI cJ cZ h_p0 ad_p0 p0_places p0_steps p0_pastFirst p0_past p0_goings p0_rowSize p0_ways p0_hasField p0_fieldSize p0_faultNow p0_hasTree p0_treeSize p0_weightCount p0_roundCount p0_setCount p0_has p0_pastHas p0_pastStep p0_pastThings p0_things post A) args s 0 0 A) (F0 m 0 ls []) by rw [hH] at hG; exact hG
  clear hH
  refine lv_aload_n hx hb dX10_keep_0 rfl (lv_at hl 0 rfl) ?_
  refine va_get (D := (dC, dI)) (ci := 10) (v := .int p0_past) (C := RX10) (T := TX10) (N := 50) hx hb hts iX10 hown hK hP 0 rfl rfl 16 (by decide) (hts (.fieldLink RX10 152 "NetHouseModel" "past" "I") (by decide +kernel)) (fun _ h9 => h9) rfl dX10_keep_1 ?_
  refine lv_sipush (v := 256) hx hb dX10_keep_4 (by decide) ?_
  refine lv_icmp_ne (tgt := 34) hx hb dX10_keep_7 (by decide) (fun c1 => ?_) (fun c2 => ?_)
  · have hw := hw.1 c1
    refine lv_aload_n hx hb dX10_keep_34 rfl (lv_at hl 0 rfl) ?_
    refine va_get (D := (dC, dI)) (ci := 10) (v := .int p0_pastFirst) (C := RX10) (T := TX10) (N := 50) hx hb hts iX10 hown hK hP 0 rfl rfl 15 (by decide) (hts (.fieldLink RX10 201 "NetHouseModel" "pastFirst" "I") (by decide +kernel)) (fun _ h9 => h9) rfl dX10_keep_35 ?_
    refine lv_aload_n hx hb dX10_keep_38 rfl (lv_at hl 0 rfl) ?_
    refine va_get (D := (dC, dI)) (ci := 10) (v := .int p0_past) (C := RX10) (T := TX10) (N := 50) hx hb hts iX10 hown hK hP 0 rfl rfl 16 (by decide) (hts (.fieldLink RX10 152 "NetHouseModel" "past" "I") (by decide +kernel)) (fun _ h9 => h9) rfl dX10_keep_39 ?_
    refine lv_iadd hx hb dX10_keep_42 ?_
    refine lv_sipush (v := 256) hx hb dX10_keep_43 (by decide) ?_
    refine lv_irem hx hb dX10_keep_46 (by decide) ?_
    refine lv_topi (fun x3 ex3 => ?_)
    have hw := hw x3 ex3
    refine lv_istore_n (lv' := [(2, .int x3), (0, .ref h_p0), (1, .int a1)]) hx hb dX10_keep_47 rfl hl (by decide) rfl (fun ls hl => ?_)
    refine lv_aload_n hx hb dX10_keep_48 rfl (lv_at hl 1 rfl) ?_
    refine lv_dup hx hb dX10_keep_49 rfl ?_
    refine va_get (D := (dC, dI)) (ci := 10) (v := .int p0_past) (C := RX10) (T := TX10) (N := 50) hx hb hts iX10 hown hK hP 0 rfl rfl 16 (by decide) (hts (.fieldLink RX10 152 "NetHouseModel" "past" "I") (by decide +kernel)) (fun _ h9 => h9) rfl dX10_keep_50 ?_
    refine lv_iconst (v := 1) hx hb dX10_keep_53 (by decide) ?_
    refine lv_iadd hx hb dX10_keep_54 ?_
    refine lv_topi (fun x4 ex4 => ?_)
    have hw := hw x4 ex4
    refine va_put (D := (dC, dI)) (ci := 10) (v := .int x4) (ty := .int) (C := RX10) (T := TX10) (N := 50) hx hb hts iX10 tyX10 tyX10_ok nmX10 hown hK hP hD hS 0 rfl rfl 16 (by decide) (hts (.fieldLink RX10 152 "NetHouseModel" "past" "I") (by decide +kernel)) (fun _ h9 => h9) rfl (by decide +kernel) rfl rfl (Nat.le_of_ble_eq_true rfl) dX10_keep_55 (fun H locs hP hD hS => ?_)
    have hP : va_P (dC, dI) vwCl (wld_X10_keep cI cJ cZ h_p0 ad_p0 p0_places p0_steps p0_pastFirst x4 p0_goings p0_rowSize p0_ways p0_hasField p0_fieldSize p0_faultNow p0_hasTree p0_treeSize p0_weightCount p0_roundCount p0_setCount p0_has p0_pastHas p0_pastStep p0_pastThings p0_things) H := hP
    have hD : va_D A (wld_X10_keep cI cJ cZ h_p0 ad_p0 p0_places p0_steps p0_pastFirst x4 p0_goings p0_rowSize p0_ways p0_hasField p0_fieldSize p0_faultNow p0_hasTree p0_treeSize p0_weightCount p0_roundCount p0_setCount p0_has p0_pastHas p0_pastStep p0_pastThings p0_things) := hD
    refine lv_aload_n hx hb dX10_keep_58 rfl (lv_at hl 1 rfl) ?_
    refine va_get (D := (dC, dI)) (ci := 10) (v := .ref (ad_p0 12)) (C := RX10) (T := TX10) (N := 50) hx hb hts iX10 hown hK hP 0 rfl rfl 12 (by decide) (hts (.fieldLink RX10 40 "NetHouseModel" "pastStep" "[I") (by decide +kernel)) (fun _ h9 => h9) rfl dX10_keep_59 ?_
    refine lv_iload_n hx hb dX10_keep_62 rfl (lv_at hl 0 rfl) ?_
    refine lv_iload_n hx hb dX10_keep_63 rfl (lv_at hl 2 rfl) ?_
    refine va_iast hx hb hK hP hD hS 3 0 rfl rfl hw.1 dX10_keep_64 (fun H locs hP hD hS => ?_)
    have hw := hw.2
    have hP : va_P (dC, dI) vwCl (wld_X10_keep cI cJ cZ h_p0 ad_p0 p0_places p0_steps p0_pastFirst x4 p0_goings p0_rowSize p0_ways p0_hasField p0_fieldSize p0_faultNow p0_hasTree p0_treeSize p0_weightCount p0_roundCount p0_setCount p0_has p0_pastHas (upd p0_pastStep x3.toNatClampNeg a1) p0_pastThings p0_things) H := hP
    have hD : va_D A (wld_X10_keep cI cJ cZ h_p0 ad_p0 p0_places p0_steps p0_pastFirst x4 p0_goings p0_rowSize p0_ways p0_hasField p0_fieldSize p0_faultNow p0_hasTree p0_treeSize p0_weightCount p0_roundCount p0_setCount p0_has p0_pastHas (upd p0_pastStep x3.toNatClampNeg a1) p0_pastThings p0_things) := hD
    refine lv_iconst (v := 0) hx hb dX10_keep_65 (by decide) ?_
    refine lv_istore_n (lv' := [(3, .int (0 : Int32)), (2, .int x3), (0, .ref h_p0), (1, .int a1)]) hx hb dX10_keep_66 rfl hl (by decide) rfl (fun ls hl => ?_)
    obtain ⟨n8, hw⟩ := hw
    refine c_X10_keep_L67 (l := l) (z_p0_pastHas := p0_pastHas) E0 ?_ n8 _ _ hw _ _ _ hP hD hS (lv_sub hl [2, 1, 0] rfl)
    · intro v9 s10 H locs ls hw hP hD hS hl
      have hP : va_P (dC, dI) vwCl (wld_X10_keep cI cJ cZ h_p0 ad_p0 p0_places p0_steps p0_pastFirst x4 p0_goings p0_rowSize p0_ways p0_hasField p0_fieldSize p0_faultNow p0_hasTree p0_treeSize p0_weightCount p0_roundCount p0_setCount p0_has s10 (upd p0_pastStep x3.toNatClampNeg a1) p0_pastThings p0_things) H := hP
      have hD : va_D A (wld_X10_keep cI cJ cZ h_p0 ad_p0 p0_places p0_steps p0_pastFirst x4 p0_goings p0_rowSize p0_ways p0_hasField p0_fieldSize p0_faultNow p0_hasTree p0_treeSize p0_weightCount p0_roundCount p0_setCount p0_has s10 (upd p0_pastStep x3.toNatClampNeg a1) p0_pastThings p0_things) := hD
      refine lv_iconst (v := 0) hx hb dX10_keep_96 (by decide) ?_
      refine lv_istore_n (lv' := [(3, .int (0 : Int32)), (0, .ref h_p0), (2, .int x3)]) hx hb dX10_keep_97 rfl hl (by decide) rfl (fun ls hl => ?_)
      obtain ⟨n14, hw⟩ := hw
      refine c_X10_keep_L98 (l := l) (z_p0_pastThings := p0_pastThings) E0 ?_ n14 _ _ hw _ _ _ hP hD hS (lv_sub hl [1, 2, 0] rfl)
      · intro v15 s16 H locs ls hw hP hD hS hl
        have hP : va_P (dC, dI) vwCl (wld_X10_keep cI cJ cZ h_p0 ad_p0 p0_places p0_steps p0_pastFirst x4 p0_goings p0_rowSize p0_ways p0_hasField p0_fieldSize p0_faultNow p0_hasTree p0_treeSize p0_weightCount p0_roundCount p0_setCount p0_has s10 (upd p0_pastStep x3.toNatClampNeg a1) s16 p0_things) H := hP
        have hD : va_D A (wld_X10_keep cI cJ cZ h_p0 ad_p0 p0_places p0_steps p0_pastFirst x4 p0_goings p0_rowSize p0_ways p0_hasField p0_fieldSize p0_faultNow p0_hasTree p0_treeSize p0_weightCount p0_roundCount p0_setCount p0_has s10 (upd p0_pastStep x3.toNatClampNeg a1) s16 p0_things) := hD
        exact x_vret (w1 := fun (u : (Int32) × (Int32) × (Nat → Int32) × (Nat → Int32) × (Nat → Int32)) => (wld_X10_keep cI cJ cZ h_p0 ad_p0 p0_places p0_steps (u.2.1) (u.1) p0_goings p0_rowSize p0_ways p0_hasField p0_fieldSize p0_faultNow p0_hasTree p0_treeSize p0_weightCount p0_roundCount p0_setCount p0_has (u.2.2.1) (u.2.2.2.1) (u.2.2.2.2) p0_things)) hx hb hr hlocks (x4, p0_pastFirst, s10, (upd p0_pastStep x3.toNatClampNeg a1), s16) hw hP hD hS dX10_keep_129
  · have hw := hw.2 c2
    refine lv_aload_n hx hb dX10_keep_10 rfl (lv_at hl 0 rfl) ?_
    refine lv_aload_n hx hb dX10_keep_11 rfl (lv_at hl 0 rfl) ?_
    refine va_get (D := (dC, dI)) (ci := 10) (v := .int p0_pastFirst) (C := RX10) (T := TX10) (N := 50) hx hb hts iX10 hown hK hP 0 rfl rfl 15 (by decide) (hts (.fieldLink RX10 201 "NetHouseModel" "pastFirst" "I") (by decide +kernel)) (fun _ h9 => h9) rfl dX10_keep_12 ?_
    refine lv_iconst (v := 1) hx hb dX10_keep_15 (by decide) ?_
    refine lv_iadd hx hb dX10_keep_16 ?_
    refine lv_sipush (v := 256) hx hb dX10_keep_17 (by decide) ?_
    refine lv_irem hx hb dX10_keep_20 (by decide) ?_
    refine lv_topi (fun x17 ex17 => ?_)
    have hw := hw x17 ex17
    refine va_put (D := (dC, dI)) (ci := 10) (v := .int x17) (ty := .int) (C := RX10) (T := TX10) (N := 50) hx hb hts iX10 tyX10 tyX10_ok nmX10 hown hK hP hD hS 0 rfl rfl 15 (by decide) (hts (.fieldLink RX10 201 "NetHouseModel" "pastFirst" "I") (by decide +kernel)) (fun _ h9 => h9) rfl (by decide +kernel) rfl rfl (Nat.le_of_ble_eq_true rfl) dX10_keep_21 (fun H locs hP hD hS => ?_)
    have hP : va_P (dC, dI) vwCl (wld_X10_keep cI cJ cZ h_p0 ad_p0 p0_places p0_steps x17 p0_past p0_goings p0_rowSize p0_ways p0_hasField p0_fieldSize p0_faultNow p0_hasTree p0_treeSize p0_weightCount p0_roundCount p0_setCount p0_has p0_pastHas p0_pastStep p0_pastThings p0_things) H := hP
    have hD : va_D A (wld_X10_keep cI cJ cZ h_p0 ad_p0 p0_places p0_steps x17 p0_past p0_goings p0_rowSize p0_ways p0_hasField p0_fieldSize p0_faultNow p0_hasTree p0_treeSize p0_weightCount p0_roundCount p0_setCount p0_has p0_pastHas p0_pastStep p0_pastThings p0_things) := hD
    refine lv_aload_n hx hb dX10_keep_24 rfl (lv_at hl 0 rfl) ?_
    refine lv_dup hx hb dX10_keep_25 rfl ?_
    refine va_get (D := (dC, dI)) (ci := 10) (v := .int p0_past) (C := RX10) (T := TX10) (N := 50) hx hb hts iX10 hown hK hP 0 rfl rfl 16 (by decide) (hts (.fieldLink RX10 152 "NetHouseModel" "past" "I") (by decide +kernel)) (fun _ h9 => h9) rfl dX10_keep_26 ?_
    refine lv_iconst (v := 1) hx hb dX10_keep_29 (by decide) ?_
    refine lv_isub hx hb dX10_keep_30 ?_
    refine lv_topi (fun x18 ex18 => ?_)
    have hw := hw x18 ex18
    refine va_put (D := (dC, dI)) (ci := 10) (v := .int x18) (ty := .int) (C := RX10) (T := TX10) (N := 50) hx hb hts iX10 tyX10 tyX10_ok nmX10 hown hK hP hD hS 0 rfl rfl 16 (by decide) (hts (.fieldLink RX10 152 "NetHouseModel" "past" "I") (by decide +kernel)) (fun _ h9 => h9) rfl (by decide +kernel) rfl rfl (Nat.le_of_ble_eq_true rfl) dX10_keep_31 (fun H locs hP hD hS => ?_)
    have hP : va_P (dC, dI) vwCl (wld_X10_keep cI cJ cZ h_p0 ad_p0 p0_places p0_steps x17 x18 p0_goings p0_rowSize p0_ways p0_hasField p0_fieldSize p0_faultNow p0_hasTree p0_treeSize p0_weightCount p0_roundCount p0_setCount p0_has p0_pastHas p0_pastStep p0_pastThings p0_things) H := hP
    have hD : va_D A (wld_X10_keep cI cJ cZ h_p0 ad_p0 p0_places p0_steps x17 x18 p0_goings p0_rowSize p0_ways p0_hasField p0_fieldSize p0_faultNow p0_hasTree p0_treeSize p0_weightCount p0_roundCount p0_setCount p0_has p0_pastHas p0_pastStep p0_pastThings p0_things) := hD
    refine lv_aload_n hx hb dX10_keep_34 rfl (lv_at hl 0 rfl) ?_
    refine va_get (D := (dC, dI)) (ci := 10) (v := .int x17) (C := RX10) (T := TX10) (N := 50) hx hb hts iX10 hown hK hP 0 rfl rfl 15 (by decide) (hts (.fieldLink RX10 201 "NetHouseModel" "pastFirst" "I") (by decide +kernel)) (fun _ h9 => h9) rfl dX10_keep_35 ?_
    refine lv_aload_n hx hb dX10_keep_38 rfl (lv_at hl 0 rfl) ?_
    refine va_get (D := (dC, dI)) (ci := 10) (v := .int x18) (C := RX10) (T := TX10) (N := 50) hx hb hts iX10 hown hK hP 0 rfl rfl 16 (by decide) (hts (.fieldLink RX10 152 "NetHouseModel" "past" "I") (by decide +kernel)) (fun _ h9 => h9) rfl dX10_keep_39 ?_
    refine lv_iadd hx hb dX10_keep_42 ?_
    refine lv_sipush (v := 256) hx hb dX10_keep_43 (by decide) ?_
    refine lv_irem hx hb dX10_keep_46 (by decide) ?_
    refine lv_topi (fun x19 ex19 => ?_)
    have hw := hw x19 ex19
    refine lv_istore_n (lv' := [(2, .int x19), (0, .ref h_p0), (1, .int a1)]) hx hb dX10_keep_47 rfl hl (by decide) rfl (fun ls hl => ?_)
    refine lv_aload_n hx hb dX10_keep_48 rfl (lv_at hl 1 rfl) ?_
    refine lv_dup hx hb dX10_keep_49 rfl ?_
    refine va_get (D := (dC, dI)) (ci := 10) (v := .int x18) (C := RX10) (T := TX10) (N := 50) hx hb hts iX10 hown hK hP 0 rfl rfl 16 (by decide) (hts (.fieldLink RX10 152 "NetHouseModel" "past" "I") (by decide +kernel)) (fun _ h9 => h9) rfl dX10_keep_50 ?_
    refine lv_iconst (v := 1) hx hb dX10_keep_53 (by decide) ?_
    refine lv_iadd hx hb dX10_keep_54 ?_
    refine lv_topi (fun x20 ex20 => ?_)
    have hw := hw x20 ex20
    refine va_put (D := (dC, dI)) (ci := 10) (v := .int x20) (ty := .int) (C := RX10) (T := TX10) (N := 50) hx hb hts iX10 tyX10 tyX10_ok nmX10 hown hK hP hD hS 0 rfl rfl 16 (by decide) (hts (.fieldLink RX10 152 "NetHouseModel" "past" "I") (by decide +kernel)) (fun _ h9 => h9) rfl (by decide +kernel) rfl rfl (Nat.le_of_ble_eq_true rfl) dX10_keep_55 (fun H locs hP hD hS => ?_)
    have hP : va_P (dC, dI) vwCl (wld_X10_keep cI cJ cZ h_p0 ad_p0 p0_places p0_steps x17 x20 p0_goings p0_rowSize p0_ways p0_hasField p0_fieldSize p0_faultNow p0_hasTree p0_treeSize p0_weightCount p0_roundCount p0_setCount p0_has p0_pastHas p0_pastStep p0_pastThings p0_things) H := hP
    have hD : va_D A (wld_X10_keep cI cJ cZ h_p0 ad_p0 p0_places p0_steps x17 x20 p0_goings p0_rowSize p0_ways p0_hasField p0_fieldSize p0_faultNow p0_hasTree p0_treeSize p0_weightCount p0_roundCount p0_setCount p0_has p0_pastHas p0_pastStep p0_pastThings p0_things) := hD
    refine lv_aload_n hx hb dX10_keep_58 rfl (lv_at hl 1 rfl) ?_
    refine va_get (D := (dC, dI)) (ci := 10) (v := .ref (ad_p0 12)) (C := RX10) (T := TX10) (N := 50) hx hb hts iX10 hown hK hP 0 rfl rfl 12 (by decide) (hts (.fieldLink RX10 40 "NetHouseModel" "pastStep" "[I") (by decide +kernel)) (fun _ h9 => h9) rfl dX10_keep_59 ?_
    refine lv_iload_n hx hb dX10_keep_62 rfl (lv_at hl 0 rfl) ?_
    refine lv_iload_n hx hb dX10_keep_63 rfl (lv_at hl 2 rfl) ?_
    refine va_iast hx hb hK hP hD hS 3 0 rfl rfl hw.1 dX10_keep_64 (fun H locs hP hD hS => ?_)
    have hw := hw.2
    have hP : va_P (dC, dI) vwCl (wld_X10_keep cI cJ cZ h_p0 ad_p0 p0_places p0_steps x17 x20 p0_goings p0_rowSize p0_ways p0_hasField p0_fieldSize p0_faultNow p0_hasTree p0_treeSize p0_weightCount p0_roundCount p0_setCount p0_has p0_pastHas (upd p0_pastStep x19.toNatClampNeg a1) p0_pastThings p0_things) H := hP
    have hD : va_D A (wld_X10_keep cI cJ cZ h_p0 ad_p0 p0_places p0_steps x17 x20 p0_goings p0_rowSize p0_ways p0_hasField p0_fieldSize p0_faultNow p0_hasTree p0_treeSize p0_weightCount p0_roundCount p0_setCount p0_has p0_pastHas (upd p0_pastStep x19.toNatClampNeg a1) p0_pastThings p0_things) := hD
    refine lv_iconst (v := 0) hx hb dX10_keep_65 (by decide) ?_
    refine lv_istore_n (lv' := [(3, .int (0 : Int32)), (2, .int x19), (0, .ref h_p0), (1, .int a1)]) hx hb dX10_keep_66 rfl hl (by decide) rfl (fun ls hl => ?_)
    obtain ⟨n21, hw⟩ := hw
    refine c_X10_keep_L67 (l := l) (z_p0_pastHas := p0_pastHas) E0 ?_ n21 _ _ hw _ _ _ hP hD hS (lv_sub hl [2, 1, 0] rfl)
    · intro v22 s23 H locs ls hw hP hD hS hl
      have hP : va_P (dC, dI) vwCl (wld_X10_keep cI cJ cZ h_p0 ad_p0 p0_places p0_steps x17 x20 p0_goings p0_rowSize p0_ways p0_hasField p0_fieldSize p0_faultNow p0_hasTree p0_treeSize p0_weightCount p0_roundCount p0_setCount p0_has s23 (upd p0_pastStep x19.toNatClampNeg a1) p0_pastThings p0_things) H := hP
      have hD : va_D A (wld_X10_keep cI cJ cZ h_p0 ad_p0 p0_places p0_steps x17 x20 p0_goings p0_rowSize p0_ways p0_hasField p0_fieldSize p0_faultNow p0_hasTree p0_treeSize p0_weightCount p0_roundCount p0_setCount p0_has s23 (upd p0_pastStep x19.toNatClampNeg a1) p0_pastThings p0_things) := hD
      refine lv_iconst (v := 0) hx hb dX10_keep_96 (by decide) ?_
      refine lv_istore_n (lv' := [(3, .int (0 : Int32)), (0, .ref h_p0), (2, .int x19)]) hx hb dX10_keep_97 rfl hl (by decide) rfl (fun ls hl => ?_)
      obtain ⟨n24, hw⟩ := hw
      refine c_X10_keep_L98 (l := l) (z_p0_pastThings := p0_pastThings) E0 ?_ n24 _ _ hw _ _ _ hP hD hS (lv_sub hl [1, 2, 0] rfl)
      · intro v25 s26 H locs ls hw hP hD hS hl
        have hP : va_P (dC, dI) vwCl (wld_X10_keep cI cJ cZ h_p0 ad_p0 p0_places p0_steps x17 x20 p0_goings p0_rowSize p0_ways p0_hasField p0_fieldSize p0_faultNow p0_hasTree p0_treeSize p0_weightCount p0_roundCount p0_setCount p0_has s23 (upd p0_pastStep x19.toNatClampNeg a1) s26 p0_things) H := hP
        have hD : va_D A (wld_X10_keep cI cJ cZ h_p0 ad_p0 p0_places p0_steps x17 x20 p0_goings p0_rowSize p0_ways p0_hasField p0_fieldSize p0_faultNow p0_hasTree p0_treeSize p0_weightCount p0_roundCount p0_setCount p0_has s23 (upd p0_pastStep x19.toNatClampNeg a1) s26 p0_things) := hD
        exact x_vret (w1 := fun (u : (Int32) × (Int32) × (Nat → Int32) × (Nat → Int32) × (Nat → Int32)) => (wld_X10_keep cI cJ cZ h_p0 ad_p0 p0_places p0_steps (u.2.1) (u.1) p0_goings p0_rowSize p0_ways p0_hasField p0_fieldSize p0_faultNow p0_hasTree p0_treeSize p0_weightCount p0_roundCount p0_setCount p0_has (u.2.2.1) (u.2.2.2.1) (u.2.2.2.2) p0_things)) hx hb hr hlocks (x20, x17, s23, (upd p0_pastStep x19.toNatClampNeg a1), s26) hw hP hD hS dX10_keep_129
