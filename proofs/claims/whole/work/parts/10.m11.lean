abbrev wld_X10_isLeast (cI cJ cZ : ClassId) (h_p0 : Nat) (ad_p0 : Nat → Nat) (p0_places : Int32) (p0_steps : Int32) (p0_pastFirst : Int32) (p0_past : Int32) (p0_goings : Int32) (p0_rowSize : Int32) (p0_ways : Int32) (p0_hasField : Int32) (p0_fieldSize : Int32) (p0_faultNow : Int32) (p0_hasTree : Int32) (p0_treeSize : Int32) (p0_weightCount : Int32) (p0_roundCount : Int32) (p0_setCount : Int32) (p0_answers : Nat → Int32) (p0_askers : Nat → Int32) : va_W := [(h_p0, .inr (10, [.int p0_places, .int p0_steps, .ref (ad_p0 2), .ref (ad_p0 3), .ref (ad_p0 4), .ref (ad_p0 5), .ref (ad_p0 6), .ref (ad_p0 7), .ref (ad_p0 8), .ref (ad_p0 9), .ref (ad_p0 10), .ref (ad_p0 11), .ref (ad_p0 12), .ref (ad_p0 13), .ref (ad_p0 14), .int p0_pastFirst, .int p0_past, .int p0_goings, .int p0_rowSize, .ref (ad_p0 19), .ref (ad_p0 20), .int p0_ways, .ref (ad_p0 22), .ref (ad_p0 23), .int p0_hasField, .int p0_fieldSize, .ref (ad_p0 26), .ref (ad_p0 27), .ref (ad_p0 28), .ref (ad_p0 29), .ref (ad_p0 30), .ref (ad_p0 31), .ref (ad_p0 32), .int p0_faultNow, .int p0_hasTree, .int p0_treeSize, .ref (ad_p0 36), .ref (ad_p0 37), .ref (ad_p0 38), .ref (ad_p0 39), .ref (ad_p0 40), .ref (ad_p0 41), .ref (ad_p0 42), .int p0_weightCount, .ref (ad_p0 44), .int p0_roundCount, .ref (ad_p0 46), .int p0_setCount, .ref (ad_p0 48), .ref (ad_p0 49)])), ((ad_p0 49), .inl (cI, 16, .inl p0_answers)), ((ad_p0 48), .inl (cI, 16, .inl p0_askers))]
abbrev q_X10_isLeast (dC : Nat → ClassId) (dI : Nat → Nat → Nat) (cI cJ cZ : ClassId) (h_p0 : Nat) (ad_p0 : Nat → Nat) (p0_places : Int32) (p0_steps : Int32) (p0_pastFirst : Int32) (p0_past : Int32) (p0_goings : Int32) (p0_rowSize : Int32) (p0_ways : Int32) (p0_hasField : Int32) (p0_fieldSize : Int32) (p0_faultNow : Int32) (p0_hasTree : Int32) (p0_treeSize : Int32) (p0_weightCount : Int32) (p0_roundCount : Int32) (p0_setCount : Int32) (p0_answers : Nat → Int32) (p0_askers : Nat → Int32) (post : Int32 → Prop) (A : Nat → Prop) : Array Value → State → Outcome → State → Prop := va_Qi (fun r (u : Unit) => post r ) (fun (u : Unit) t => xPost (dC, dI) A (wld_X10_isLeast cI cJ cZ h_p0 ad_p0 p0_places p0_steps p0_pastFirst p0_past p0_goings p0_rowSize p0_ways p0_hasField p0_fieldSize p0_faultNow p0_hasTree p0_treeSize p0_weightCount p0_roundCount p0_setCount p0_answers p0_askers) t) A
def w_X10_isLeast_L8b (v1 : Int32) (p0_places : Int32) (p0_steps : Int32) (p0_answers : Nat → Int32) (p0_askers : Nat → Int32) (post : Int32 → Prop) (K : (Int32) → (Int32) → Prop) (rec : (Int32) → (Int32) → Prop) (v2 : Int32) (v3 : Int32) : Prop :=
    (p0_places ≤ v3 →
      K v2 v3) ∧
    (¬ p0_places ≤ v3 →
      (v2 = 0 →
        K v2 v3) ∧
      (¬ v2 = 0 →
        (((v1 >>> (v3 &&& 31)) &&& (1 : Int32)) = 0 →
          ∀ x8 : Int32, x8 = v3 + (1 : Int32) →
          rec (1 : Int32) x8) ∧
        (¬ ((v1 >>> (v3 &&& 31)) &&& (1 : Int32)) = 0 →
          w_X10_greatestIn p0_steps p0_answers p0_askers (v1 &&& (((1 : Int32) <<< (v3 &&& 31)) ^^^ (-1 : Int32))) (fun r9 =>
          (¬ r9 = 0 →
            ∀ x12 : Int32, x12 = v3 + (1 : Int32) →
            rec (0 : Int32) x12) ∧
          (r9 = 0 →
            ∀ x13 : Int32, x13 = v3 + (1 : Int32) →
            rec (1 : Int32) x13)))))
def w_X10_isLeast_L8 (v1 : Int32) (p0_places : Int32) (p0_steps : Int32) (p0_answers : Nat → Int32) (p0_askers : Nat → Int32) (post : Int32 → Prop) (K : (Int32) → (Int32) → Prop) : Nat → (Int32) → (Int32) → Prop
  | 0, _, _ => False
  | n + 1, v2, v3 => w_X10_isLeast_L8b v1 p0_places p0_steps p0_answers p0_askers post K (w_X10_isLeast_L8 v1 p0_places p0_steps p0_answers p0_askers post K n) v2 v3
def w_X10_isLeast (p0_places : Int32) (p0_steps : Int32) (p0_answers : Nat → Int32) (p0_askers : Nat → Int32) (a1 : Int32) (post : Int32 → Prop) : Prop :=
  w_X10_isKept p0_steps p0_answers p0_askers a1 (fun r1 =>
  ∃ n : Nat, w_X10_isLeast_L8 a1 p0_places p0_steps p0_answers p0_askers post (fun v15 v16 =>
      v15 &&& 1 = v15 ∧
      (post v15)) n r1 (0 : Int32))
set_option maxHeartbeats 4000000 in
set_option maxRecDepth 100000 in
theorem c_X10_isLeast_L8 {p : Program} {l : Launch} {e : Env} {s : State} {m : MethodId} {args : Array Value} {below : List Frame} {meth : Method} {c : Code} {dC : Nat → ClassId} {dI : Nat → Nat → Nat} {A : Nat → Prop} {cI cJ cZ : ClassId} {h_p0 : Nat} {ad_p0 : Nat → Nat} {p0_places : Int32} {p0_steps : Int32} {p0_pastFirst : Int32} {p0_past : Int32} {p0_goings : Int32} {p0_rowSize : Int32} {p0_ways : Int32} {p0_hasField : Int32} {p0_fieldSize : Int32} {p0_faultNow : Int32} {p0_hasTree : Int32} {p0_treeSize : Int32} {p0_weightCount : Int32} {p0_roundCount : Int32} {p0_setCount : Int32} {p0_answers : Nat → Int32} {p0_askers : Nat → Int32} {v1 : Int32}  {post : Int32 → Prop} {K : (Int32) → (Int32) → Prop} (E0 : xEnv p s m args meth c cX10_isLeast (some .boolean) 4 RX10 wsX10_isLeast (dC, dI) cI cJ cZ A) (hk : ∀ (v2 : Int32) (v3 : Int32) (H : Heap) (locs : List Loc) (ls : Array Slot), K v2 v3 → va_P (dC, dI) vwCl (wld_X10_isLeast cI cJ cZ h_p0 ad_p0 p0_places p0_steps p0_pastFirst p0_past p0_goings p0_rowSize p0_ways p0_hasField p0_fieldSize p0_faultNow p0_hasTree p0_treeSize p0_weightCount p0_roundCount p0_setCount p0_answers p0_askers) H → va_D A (wld_X10_isLeast cI cJ cZ h_p0 ad_p0 p0_places p0_steps p0_pastFirst p0_past p0_goings p0_rowSize p0_ways p0_hasField p0_fieldSize p0_faultNow p0_hasTree p0_treeSize p0_weightCount p0_roundCount p0_setCount p0_answers p0_askers) → va_S A s.heap H locs → lv_has ls 4 [(2, .int v2)] → W p l e ({ frames := 1, cells := 0, slots := 0, locals := 24 }) s m args below meth c H locs 0 0 (MQ below (q_X10_isLeast dC dI cI cJ cZ h_p0 ad_p0 p0_places p0_steps p0_pastFirst p0_past p0_goings p0_rowSize p0_ways p0_hasField p0_fieldSize p0_faultNow p0_hasTree p0_treeSize p0_weightCount p0_roundCount p0_setCount p0_answers p0_askers post A) args s 0 0 A) (F0 m 54 ls [])) : ∀ (n : Nat) (v2 : Int32) (v3 : Int32), w_X10_isLeast_L8 v1 p0_places p0_steps p0_answers p0_askers post K n v2 v3 → ∀ (H : Heap) (locs : List Loc) (ls : Array Slot), va_P (dC, dI) vwCl (wld_X10_isLeast cI cJ cZ h_p0 ad_p0 p0_places p0_steps p0_pastFirst p0_past p0_goings p0_rowSize p0_ways p0_hasField p0_fieldSize p0_faultNow p0_hasTree p0_treeSize p0_weightCount p0_roundCount p0_setCount p0_answers p0_askers) H → va_D A (wld_X10_isLeast cI cJ cZ h_p0 ad_p0 p0_places p0_steps p0_pastFirst p0_past p0_goings p0_rowSize p0_ways p0_hasField p0_fieldSize p0_faultNow p0_hasTree p0_treeSize p0_weightCount p0_roundCount p0_setCount p0_answers p0_askers) → va_S A s.heap H locs → lv_has ls 4 [(0, .ref h_p0), (1, .int v1), (2, .int v2), (3, .int v3)] → W p l e ({ frames := 1, cells := 0, slots := 0, locals := 24 }) s m args below meth c H locs 0 0 (MQ below (q_X10_isLeast dC dI cI cJ cZ h_p0 ad_p0 p0_places p0_steps p0_pastFirst p0_past p0_goings p0_rowSize p0_ways p0_hasField p0_fieldSize p0_faultNow p0_hasTree p0_treeSize p0_weightCount p0_roundCount p0_setCount p0_answers p0_askers post A) args s 0 0 A) (F0 m 8 ls []) := by
  obtain ⟨hx, hb, hr, hml, hown, hts, hlocks, hK, hA, n1, n2⟩ := id E0
  have iX10 : ∀ w ∈ u_ws RX10 TX10 50, w ∈ wsX10_isLeast := fun w h => List.mem_cons_of_mem _ (List.mem_append_right _ h)
  intro n
  induction n with
  | zero => intro v2 v3 hw; exact hw.elim
  | succ n ih =>
    intro v2 v3 hw H locs ls hP hD hS hl
    have hw : w_X10_isLeast_L8b v1 p0_places p0_steps p0_answers p0_askers post K (w_X10_isLeast_L8 v1 p0_places p0_steps p0_answers p0_askers post K n) v2 v3 := hw
    unfold w_X10_isLeast_L8b at hw
    refine lv_iload_n hx hb dX10_isLeast_8 rfl (lv_at hl 3 rfl) ?_
    refine lv_aload_n hx hb dX10_isLeast_9 rfl (lv_at hl 0 rfl) ?_
    refine va_get (D := (dC, dI)) (ci := 10) (v := .int p0_places) (C := RX10) (T := TX10) (N := 50) hx hb hts iX10 hown hK hP 0 rfl rfl 0 (by decide) (hts (.fieldLink RX10 127 "NetHouseModel" "places" "I") (by decide +kernel)) (fun _ h9 => h9) rfl dX10_isLeast_10 ?_
    refine lv_icmp_ge (tgt := 54) hx hb dX10_isLeast_13 (by decide) (fun c2 => ?_) (fun c3 => ?_)
    · have hw := hw.1 c2
      exact hk _ _ _ _ _ hw hP hD hS (lv_sub hl [2] rfl)
    · have hw := hw.2 c3
      refine lv_iload_n hx hb dX10_isLeast_16 rfl (lv_at hl 2 rfl) ?_
      refine lv_if_eq (tgt := 54) hx hb dX10_isLeast_17 (by decide) (fun c4 => ?_) (fun c5 => ?_)
      · have hw := hw.1 c4
        exact hk _ _ _ _ _ hw hP hD hS (lv_sub hl [2] rfl)
      · have hw := hw.2 c5
        refine lv_iload_n hx hb dX10_isLeast_20 rfl (lv_at hl 1 rfl) ?_
        refine lv_iload_n hx hb dX10_isLeast_21 rfl (lv_at hl 3 rfl) ?_
        refine lv_ishr hx hb dX10_isLeast_22 ?_
        refine lv_iconst (v := 1) hx hb dX10_isLeast_23 (by decide) ?_
        refine lv_iand hx hb dX10_isLeast_24 ?_
        refine lv_if_eq (tgt := 42) hx hb dX10_isLeast_25 (by decide) (fun c6 => ?_) (fun c7 => ?_)
        · have hw := hw.1 c6
          refine lv_iconst (v := 1) hx hb dX10_isLeast_42 (by decide) ?_
          refine lv_goto (tgt := 47) hx hb dX10_isLeast_43 (by decide) ?_
          refine lv_istore_n (lv' := [(2, .int (1 : Int32)), (0, .ref h_p0), (1, .int v1), (3, .int v3)]) hx hb dX10_isLeast_47 rfl hl (by decide) rfl (fun ls hl => ?_)
          obtain ⟨x8, ex8⟩ : ∃ y : Int32, y = v3 + (1 : Int32) := ⟨_, rfl⟩
          have hw := hw x8 ex8
          refine lv_iinc (v := x8) (lv' := [(3, .int x8), (2, .int (1 : Int32)), (0, .ref h_p0), (1, .int v1)]) hx hb dX10_isLeast_48 hl (k := 3) rfl (by rw [ex8]; rfl) (by decide) rfl (fun ls hl => ?_)
          refine lv_goto (tgt := 8) hx hb dX10_isLeast_51 (by decide) ?_
          exact ih _ _ hw _ _ _ hP hD hS (lv_sub hl [2, 3, 1, 0] rfl)
        · have hw := hw.2 c7
          refine lv_aload_n hx hb dX10_isLeast_28 rfl (lv_at hl 0 rfl) ?_
          refine lv_iload_n hx hb dX10_isLeast_29 rfl (lv_at hl 1 rfl) ?_
          refine lv_iconst (v := 1) hx hb dX10_isLeast_30 (by decide) ?_
          refine lv_iload_n hx hb dX10_isLeast_31 rfl (lv_at hl 3 rfl) ?_
          refine lv_ishl hx hb dX10_isLeast_32 ?_
          refine lv_iconst (v := -1) hx hb dX10_isLeast_33 (by decide) ?_
          refine lv_ixor hx hb dX10_isLeast_34 ?_
          refine lv_iand hx hb dX10_isLeast_35 ?_
          obtain ⟨hPc, hDc⟩ := x_sub (wc := (wld_X10_greatestIn cI cJ cZ h_p0 ad_p0 p0_places p0_steps p0_pastFirst p0_past p0_goings p0_rowSize p0_ways p0_hasField p0_fieldSize p0_faultNow p0_hasTree p0_treeSize p0_weightCount p0_roundCount p0_setCount p0_answers p0_askers)) hP hD [0, 1, 2] (n := 3) rfl rfl (by decide +kernel)
          refine x_calli (ws' := fun (u : Unit) => (wld_X10_isLeast cI cJ cZ h_p0 ad_p0 p0_places p0_steps p0_pastFirst p0_past p0_goings p0_rowSize p0_ways p0_hasField p0_fieldSize p0_faultNow p0_hasTree p0_treeSize p0_weightCount p0_roundCount p0_setCount p0_answers p0_askers)) hP hD hS hA [0, 1, 2] [] [0, 1, 2] (n := 3) (k := 3) rfl (fun _ => rfl) rfl (by decide +kernel) (fun _ => rfl) (va_runV (As := [.int (v1 &&& (((1 : Int32) <<< (v3 &&& 31)) ^^^ (-1 : Int32)))]) (rest := []) ⟨hx, hb, hml, hown, hts⟩ (c_X10_greatestIn (l := l) (dC := dC) (dI := dI) (cI := cI) (cJ := cJ) (cZ := cZ) (sz := H.size) (h_p0 := h_p0) (ad_p0 := ad_p0) (p0_places := p0_places) (p0_steps := p0_steps) (p0_pastFirst := p0_pastFirst) (p0_past := p0_past) (p0_goings := p0_goings) (p0_rowSize := p0_rowSize) (p0_ways := p0_ways) (p0_hasField := p0_hasField) (p0_fieldSize := p0_fieldSize) (p0_faultNow := p0_faultNow) (p0_hasTree := p0_hasTree) (p0_treeSize := p0_treeSize) (p0_weightCount := p0_weightCount) (p0_roundCount := p0_roundCount) (p0_setCount := p0_setCount) (p0_answers := p0_answers) (p0_askers := p0_askers) hw) (cwV 1 hts gX10_isLeast_X10_greatestIn rfl rfl rfl (by decide +kernel) ⟨Nat.le_of_ble_eq_true rfl, Nat.le_of_ble_eq_true rfl⟩) ⟨xPre_blind, va_recv hK hP (ci := 10) (q0 := 0) rfl rfl, xPre_at hK hPc hDc n1 n2⟩ rfl rfl hl.1 rfl (lv_room (Nat.le_of_ble_eq_true rfl)) dX10_isLeast_36 ⟨Nat.zero_le _, Nat.zero_le _⟩) (fun r9 u H locs hw hP hD hS => ?_)
          try dsimp only at hw
          have hP : va_P (dC, dI) vwCl (wld_X10_isLeast cI cJ cZ h_p0 ad_p0 p0_places p0_steps p0_pastFirst p0_past p0_goings p0_rowSize p0_ways p0_hasField p0_fieldSize p0_faultNow p0_hasTree p0_treeSize p0_weightCount p0_roundCount p0_setCount p0_answers p0_askers) H := hP
          have hD : va_D A (wld_X10_isLeast cI cJ cZ h_p0 ad_p0 p0_places p0_steps p0_pastFirst p0_past p0_goings p0_rowSize p0_ways p0_hasField p0_fieldSize p0_faultNow p0_hasTree p0_treeSize p0_weightCount p0_roundCount p0_setCount p0_answers p0_askers) := hD
          refine lv_if_ne (tgt := 46) hx hb dX10_isLeast_39 (by decide) (fun c10 => ?_) (fun c11 => ?_)
          · have hw := hw.1 c10
            refine lv_iconst (v := 0) hx hb dX10_isLeast_46 (by decide) ?_
            refine lv_istore_n (lv' := [(2, .int (0 : Int32)), (0, .ref h_p0), (1, .int v1), (3, .int v3)]) hx hb dX10_isLeast_47 rfl hl (by decide) rfl (fun ls hl => ?_)
            obtain ⟨x12, ex12⟩ : ∃ y : Int32, y = v3 + (1 : Int32) := ⟨_, rfl⟩
            have hw := hw x12 ex12
            refine lv_iinc (v := x12) (lv' := [(3, .int x12), (2, .int (0 : Int32)), (0, .ref h_p0), (1, .int v1)]) hx hb dX10_isLeast_48 hl (k := 3) rfl (by rw [ex12]; rfl) (by decide) rfl (fun ls hl => ?_)
            refine lv_goto (tgt := 8) hx hb dX10_isLeast_51 (by decide) ?_
            exact ih _ _ hw _ _ _ hP hD hS (lv_sub hl [2, 3, 1, 0] rfl)
          · have hw := hw.2 c11
            refine lv_iconst (v := 1) hx hb dX10_isLeast_42 (by decide) ?_
            refine lv_goto (tgt := 47) hx hb dX10_isLeast_43 (by decide) ?_
            refine lv_istore_n (lv' := [(2, .int (1 : Int32)), (0, .ref h_p0), (1, .int v1), (3, .int v3)]) hx hb dX10_isLeast_47 rfl hl (by decide) rfl (fun ls hl => ?_)
            obtain ⟨x13, ex13⟩ : ∃ y : Int32, y = v3 + (1 : Int32) := ⟨_, rfl⟩
            have hw := hw x13 ex13
            refine lv_iinc (v := x13) (lv' := [(3, .int x13), (2, .int (1 : Int32)), (0, .ref h_p0), (1, .int v1)]) hx hb dX10_isLeast_48 hl (k := 3) rfl (by rw [ex13]; rfl) (by decide) rfl (fun ls hl => ?_)
            refine lv_goto (tgt := 8) hx hb dX10_isLeast_51 (by decide) ?_
            exact ih _ _ hw _ _ _ hP hD hS (lv_sub hl [2, 3, 1, 0] rfl)
set_option maxHeartbeats 4000000 in
set_option maxRecDepth 100000 in
theorem c_X10_isLeast {l : Launch} {dC : Nat → ClassId} {dI : Nat → Nat → Nat} {sz : Nat} {cI cJ cZ : ClassId} {h_p0 : Nat} {ad_p0 : Nat → Nat} {p0_places : Int32} {p0_steps : Int32} {p0_pastFirst : Int32} {p0_past : Int32} {p0_goings : Int32} {p0_rowSize : Int32} {p0_ways : Int32} {p0_hasField : Int32} {p0_fieldSize : Int32} {p0_faultNow : Int32} {p0_hasTree : Int32} {p0_treeSize : Int32} {p0_weightCount : Int32} {p0_roundCount : Int32} {p0_setCount : Int32} {p0_answers : Nat → Int32} {p0_askers : Nat → Int32} {a1 : Int32} {post : Int32 → Prop} (hw : w_X10_isLeast p0_places p0_steps p0_answers p0_askers a1 post) : Met l yX10_isLeast wsX10_isLeast ({ frames := 1, cells := 0, slots := 0, locals := 24 }) (va_Pc [.ref h_p0, .int a1] (xPre (dC, dI) cI cJ cZ (wld_X10_isLeast cI cJ cZ h_p0 ad_p0 p0_places p0_steps p0_pastFirst p0_past p0_goings p0_rowSize p0_ways p0_hasField p0_fieldSize p0_faultNow p0_hasTree p0_treeSize p0_weightCount p0_roundCount p0_setCount p0_answers p0_askers) sz)) (q_X10_isLeast dC dI cI cJ cZ h_p0 ad_p0 p0_places p0_steps p0_pastFirst p0_past p0_goings p0_rowSize p0_ways p0_hasField p0_fieldSize p0_faultNow p0_hasTree p0_treeSize p0_weightCount p0_roundCount p0_setCount p0_answers p0_askers post (va_A (wld_X10_isLeast cI cJ cZ h_p0 ad_p0 p0_places p0_steps p0_pastFirst p0_past p0_goings p0_rowSize p0_ways p0_hasField p0_fieldSize p0_faultNow p0_hasTree p0_treeSize p0_weightCount p0_roundCount p0_setCount p0_answers p0_askers) sz)) 0 0 (va_A (wld_X10_isLeast cI cJ cZ h_p0 ad_p0 p0_places p0_steps p0_pastFirst p0_past p0_goings p0_rowSize p0_ways p0_hasField p0_fieldSize p0_faultNow p0_hasTree p0_treeSize p0_weightCount p0_roundCount p0_setCount p0_answers p0_askers) sz) := by
  refine x_met (cc := cX10_isLeast) (maxL := 4) (ret := (some .boolean)) (own := RX10) (Qc := fun A => (q_X10_isLeast dC dI cI cJ cZ h_p0 ad_p0 p0_places p0_steps p0_pastFirst p0_past p0_goings p0_rowSize p0_ways p0_hasField p0_fieldSize p0_faultNow p0_hasTree p0_treeSize p0_weightCount p0_roundCount p0_setCount p0_answers p0_askers post A)) (by decide) rfl rfl (Nat.le_of_ble_eq_true rfl) ?_
  intro p e s m args below meth c A ls E0 hP hD hS hl
  obtain ⟨hx, hb, hr, hml, hown, hts, hlocks, hK, hA, n1, n2⟩ := id E0
  have iX10 : ∀ w ∈ u_ws RX10 TX10 50, w ∈ wsX10_isLeast := fun w h => List.mem_cons_of_mem _ (List.mem_append_right _ h)
  have hS0 := hS
  have hl : lv_has ls 4 [(0, .ref h_p0), (1, .int a1)] := hl
  unfold w_X10_isLeast at hw
  obtain ⟨H, hH⟩ : ∃ H, H = s.heap := ⟨_, rfl⟩
  have hS : va_S A s.heap H [] := by rw [hH]; exact hS
  have hP : va_P (dC, dI) vwCl (wld_X10_isLeast cI cJ cZ h_p0 ad_p0 p0_places p0_steps p0_pastFirst p0_past p0_goings p0_rowSize p0_ways p0_hasField p0_fieldSize p0_faultNow p0_hasTree p0_treeSize p0_weightCount p0_roundCount p0_setCount p0_answers p0_askers) H := by rw [hH]; exact hP
  suffices hG : W p l e ({ frames := 1, cells := 0, slots := 0, locals := 24 }) s m args below meth c H [] 0 0 (MQ below (q_X10_isLeast dC dI cI cJ cZ h_p0 ad_p0 p0_places p0_steps p0_pastFirst p0_past p0_goings p0_rowSize p0_ways p0_hasField p0_fieldSize p0_faultNow p0_hasTree p0_treeSize p0_weightCount p0_roundCount p0_setCount p0_answers p0_askers post A) args s 0 0 A) (F0 m 0 ls []) by rw [hH] at hG; exact hG
  clear hH
  refine lv_aload_n hx hb dX10_isLeast_0 rfl (lv_at hl 0 rfl) ?_
  refine lv_iload_n hx hb dX10_isLeast_1 rfl (lv_at hl 1 rfl) ?_
  obtain ⟨hPc, hDc⟩ := x_sub (wc := (wld_X10_isKept cI cJ cZ h_p0 ad_p0 p0_places p0_steps p0_pastFirst p0_past p0_goings p0_rowSize p0_ways p0_hasField p0_fieldSize p0_faultNow p0_hasTree p0_treeSize p0_weightCount p0_roundCount p0_setCount p0_answers p0_askers)) hP hD [0, 1, 2] (n := 3) rfl rfl (by decide +kernel)
  refine x_calli (ws' := fun (u : Unit) => (wld_X10_isLeast cI cJ cZ h_p0 ad_p0 p0_places p0_steps p0_pastFirst p0_past p0_goings p0_rowSize p0_ways p0_hasField p0_fieldSize p0_faultNow p0_hasTree p0_treeSize p0_weightCount p0_roundCount p0_setCount p0_answers p0_askers)) hP hD hS hA [0, 1, 2] [] [0, 1, 2] (n := 3) (k := 3) rfl (fun _ => rfl) rfl (by decide +kernel) (fun _ => rfl) (va_runV (As := [.int a1]) (rest := []) ⟨hx, hb, hml, hown, hts⟩ (c_X10_isKept (l := l) (dC := dC) (dI := dI) (cI := cI) (cJ := cJ) (cZ := cZ) (sz := H.size) (h_p0 := h_p0) (ad_p0 := ad_p0) (p0_places := p0_places) (p0_steps := p0_steps) (p0_pastFirst := p0_pastFirst) (p0_past := p0_past) (p0_goings := p0_goings) (p0_rowSize := p0_rowSize) (p0_ways := p0_ways) (p0_hasField := p0_hasField) (p0_fieldSize := p0_fieldSize) (p0_faultNow := p0_faultNow) (p0_hasTree := p0_hasTree) (p0_treeSize := p0_treeSize) (p0_weightCount := p0_weightCount) (p0_roundCount := p0_roundCount) (p0_setCount := p0_setCount) (p0_answers := p0_answers) (p0_askers := p0_askers) hw) (cwV 1 hts gX10_isLeast_X10_isKept rfl rfl rfl (by decide +kernel) ⟨Nat.le_of_ble_eq_true rfl, Nat.le_of_ble_eq_true rfl⟩) ⟨xPre_blind, va_recv hK hP (ci := 10) (q0 := 0) rfl rfl, xPre_at hK hPc hDc n1 n2⟩ rfl rfl hl.1 rfl (lv_room (Nat.le_of_ble_eq_true rfl)) dX10_isLeast_2 ⟨Nat.zero_le _, Nat.zero_le _⟩) (fun r1 u H locs hw hP hD hS => ?_)
  try dsimp only at hw
  have hP : va_P (dC, dI) vwCl (wld_X10_isLeast cI cJ cZ h_p0 ad_p0 p0_places p0_steps p0_pastFirst p0_past p0_goings p0_rowSize p0_ways p0_hasField p0_fieldSize p0_faultNow p0_hasTree p0_treeSize p0_weightCount p0_roundCount p0_setCount p0_answers p0_askers) H := hP
  have hD : va_D A (wld_X10_isLeast cI cJ cZ h_p0 ad_p0 p0_places p0_steps p0_pastFirst p0_past p0_goings p0_rowSize p0_ways p0_hasField p0_fieldSize p0_faultNow p0_hasTree p0_treeSize p0_weightCount p0_roundCount p0_setCount p0_answers p0_askers) := hD
  refine lv_istore_n (lv' := [(2, .int r1), (0, .ref h_p0), (1, .int a1)]) hx hb dX10_isLeast_5 rfl hl (by decide) rfl (fun ls hl => ?_)
  refine lv_iconst (v := 0) hx hb dX10_isLeast_6 (by decide) ?_
  refine lv_istore_n (lv' := [(3, .int (0 : Int32)), (2, .int r1), (0, .ref h_p0), (1, .int a1)]) hx hb dX10_isLeast_7 rfl hl (by decide) rfl (fun ls hl => ?_)
  obtain ⟨n14, hw⟩ := hw
  refine c_X10_isLeast_L8 (l := l)  E0 ?_ n14 _ _ hw _ _ _ hP hD hS (lv_sub hl [2, 3, 1, 0] rfl)
  · intro v15 v16 H locs ls hw hP hD hS hl
    have hP : va_P (dC, dI) vwCl (wld_X10_isLeast cI cJ cZ h_p0 ad_p0 p0_places p0_steps p0_pastFirst p0_past p0_goings p0_rowSize p0_ways p0_hasField p0_fieldSize p0_faultNow p0_hasTree p0_treeSize p0_weightCount p0_roundCount p0_setCount p0_answers p0_askers) H := hP
    have hD : va_D A (wld_X10_isLeast cI cJ cZ h_p0 ad_p0 p0_places p0_steps p0_pastFirst p0_past p0_goings p0_rowSize p0_ways p0_hasField p0_fieldSize p0_faultNow p0_hasTree p0_treeSize p0_weightCount p0_roundCount p0_setCount p0_answers p0_askers) := hD
    refine lv_iload_n hx hb dX10_isLeast_54 rfl (lv_at hl 0 rfl) ?_
    have hv := hw.1
    have hw := hw.2
    exact x_zret (w1 := fun (u : Unit) => (wld_X10_isLeast cI cJ cZ h_p0 ad_p0 p0_places p0_steps p0_pastFirst p0_past p0_goings p0_rowSize p0_ways p0_hasField p0_fieldSize p0_faultNow p0_hasTree p0_treeSize p0_weightCount p0_roundCount p0_setCount p0_answers p0_askers)) hx hb hr hlocks hv () hw hP hD hS dX10_isLeast_55
abbrev wld_X10_sets (cI cJ cZ : ClassId) (h_p0 : Nat) (ad_p0 : Nat → Nat) (p0_places : Int32) (p0_steps : Int32) (p0_pastFirst : Int32) (p0_past : Int32) (p0_goings : Int32) (p0_rowSize : Int32) (p0_ways : Int32) (p0_hasField : Int32) (p0_fieldSize : Int32) (p0_faultNow : Int32) (p0_hasTree : Int32) (p0_treeSize : Int32) (p0_weightCount : Int32) (p0_roundCount : Int32) (p0_setCount : Int32) (p0_answers : Nat → Int32) (p0_askers : Nat → Int32) (p0_found : Nat → Int32) (p0_puts : Nat → Int32) (p0_takes : Nat → Int32) : va_W := [(h_p0, .inr (10, [.int p0_places, .int p0_steps, .ref (ad_p0 2), .ref (ad_p0 3), .ref (ad_p0 4), .ref (ad_p0 5), .ref (ad_p0 6), .ref (ad_p0 7), .ref (ad_p0 8), .ref (ad_p0 9), .ref (ad_p0 10), .ref (ad_p0 11), .ref (ad_p0 12), .ref (ad_p0 13), .ref (ad_p0 14), .int p0_pastFirst, .int p0_past, .int p0_goings, .int p0_rowSize, .ref (ad_p0 19), .ref (ad_p0 20), .int p0_ways, .ref (ad_p0 22), .ref (ad_p0 23), .int p0_hasField, .int p0_fieldSize, .ref (ad_p0 26), .ref (ad_p0 27), .ref (ad_p0 28), .ref (ad_p0 29), .ref (ad_p0 30), .ref (ad_p0 31), .ref (ad_p0 32), .int p0_faultNow, .int p0_hasTree, .int p0_treeSize, .ref (ad_p0 36), .ref (ad_p0 37), .ref (ad_p0 38), .ref (ad_p0 39), .ref (ad_p0 40), .ref (ad_p0 41), .ref (ad_p0 42), .int p0_weightCount, .ref (ad_p0 44), .int p0_roundCount, .ref (ad_p0 46), .int p0_setCount, .ref (ad_p0 48), .ref (ad_p0 49)])), ((ad_p0 49), .inl (cI, 16, .inl p0_answers)), ((ad_p0 48), .inl (cI, 16, .inl p0_askers)), ((ad_p0 46), .inl (cI, 500, .inl p0_found)), ((ad_p0 5), .inl (cI, 256, .inl p0_puts)), ((ad_p0 4), .inl (cI, 256, .inl p0_takes))]
abbrev q_X10_sets (dC : Nat → ClassId) (dI : Nat → Nat → Nat) (cI cJ cZ : ClassId) (h_p0 : Nat) (ad_p0 : Nat → Nat) (p0_places : Int32) (p0_steps : Int32) (p0_pastFirst : Int32) (p0_past : Int32) (p0_goings : Int32) (p0_rowSize : Int32) (p0_ways : Int32) (p0_hasField : Int32) (p0_fieldSize : Int32) (p0_faultNow : Int32) (p0_hasTree : Int32) (p0_treeSize : Int32) (p0_weightCount : Int32) (p0_roundCount : Int32) (p0_setCount : Int32) (p0_answers : Nat → Int32) (p0_askers : Nat → Int32) (p0_found : Nat → Int32) (p0_puts : Nat → Int32) (p0_takes : Nat → Int32) (post : Int32 → (Int32) → (Nat → Int32) → (Nat → Int32) → (Nat → Int32) → Prop) (A : Nat → Prop) : Array Value → State → Outcome → State → Prop := va_Qi (fun r (u : (Int32) × (Nat → Int32) × (Nat → Int32) × (Nat → Int32)) => post r (u.1) (u.2.1) (u.2.2.1) (u.2.2.2)) (fun (u : (Int32) × (Nat → Int32) × (Nat → Int32) × (Nat → Int32)) t => xPost (dC, dI) A (wld_X10_sets cI cJ cZ h_p0 ad_p0 p0_places p0_steps p0_pastFirst p0_past p0_goings p0_rowSize p0_ways p0_hasField p0_fieldSize p0_faultNow p0_hasTree p0_treeSize p0_weightCount p0_roundCount (u.1) (u.2.1) (u.2.2.1) (u.2.2.2) p0_puts p0_takes) t) A
def w_X10_sets_L35b (v2 : Int32) (p0_places : Int32) (p0_steps : Int32) (p0_answers : Nat → Int32) (p0_askers : Nat → Int32) (p0_puts : Nat → Int32) (p0_takes : Nat → Int32) (post : Int32 → (Int32) → (Nat → Int32) → (Nat → Int32) → (Nat → Int32) → Prop) (K : (Int32) → (Int32) → (Nat → Int32) → Prop) (rec : (Int32) → (Int32) → (Nat → Int32) → Prop) (v3 : Int32) (p0_setCount : Int32) (p0_found : Nat → Int32) : Prop :=
    (((1 : Int32) <<< (p0_places &&& 31)) ≤ v3 →
      K v3 p0_setCount p0_found) ∧
    (¬ ((1 : Int32) <<< (p0_places &&& 31)) ≤ v3 →
      (v2 ≤ p0_setCount →
        K v3 p0_setCount p0_found) ∧
      (¬ v2 ≤ p0_setCount →
        w_X10_isLeast p0_places p0_steps p0_answers p0_askers v3 (fun r13 =>
        (r13 = 0 →
          ∀ x16 : Int32, x16 = v3 + (1 : Int32) →
          rec x16 p0_setCount p0_found) ∧
        (¬ r13 = 0 →
          vp_in p0_setCount 500 ∧
          ∀ x17 : Int32, x17 = (p0_setCount + (1 : Int32)) →
          ∀ x18 : Int32, x18 = v3 + (1 : Int32) →
          rec x18 x17 (upd p0_found p0_setCount.toNatClampNeg v3)))))
def w_X10_sets_L35 (v2 : Int32) (p0_places : Int32) (p0_steps : Int32) (p0_answers : Nat → Int32) (p0_askers : Nat → Int32) (p0_puts : Nat → Int32) (p0_takes : Nat → Int32) (post : Int32 → (Int32) → (Nat → Int32) → (Nat → Int32) → (Nat → Int32) → Prop) (K : (Int32) → (Int32) → (Nat → Int32) → Prop) : Nat → (Int32) → (Int32) → (Nat → Int32) → Prop
  | 0, _, _, _ => False
  | n + 1, v3, p0_setCount, p0_found => w_X10_sets_L35b v2 p0_places p0_steps p0_answers p0_askers p0_puts p0_takes post K (w_X10_sets_L35 v2 p0_places p0_steps p0_answers p0_askers p0_puts p0_takes post K n) v3 p0_setCount p0_found
def w_X10_sets (p0_places : Int32) (p0_setCount : Int32) (p0_steps : Int32) (p0_answers : Nat → Int32) (p0_askers : Nat → Int32) (p0_found : Nat → Int32) (p0_puts : Nat → Int32) (p0_takes : Nat → Int32) (a1 : Int32) (a2 : Int32) (post : Int32 → (Int32) → (Nat → Int32) → (Nat → Int32) → (Nat → Int32) → Prop) : Prop :=
  w_X10_isIn a1 (0 : Int32) (1 : Int32) (fun r1 =>
  (r1 = 0 →
    (post (-2000000001 : Int32) p0_setCount p0_answers p0_askers p0_found)) ∧
  (¬ r1 = 0 →
    w_X10_isIn a2 (1 : Int32) (500 : Int32) (fun r4 =>
    (¬ r4 = 0 →
      w_X10_readSteps p0_places p0_steps p0_answers p0_askers p0_puts p0_takes a1 (fun y7 y8 =>
      ∃ n : Nat, w_X10_sets_L35 a2 p0_places p0_steps y7 y8 p0_puts p0_takes post (fun v20 s21 s22 =>
          (post s21 s21 y7 y8 s22)) n (1 : Int32) (0 : Int32) p0_found)) ∧
    (r4 = 0 →
      (post (-2000000001 : Int32) p0_setCount p0_answers p0_askers p0_found)))))
set_option maxHeartbeats 4000000 in
set_option maxRecDepth 100000 in
theorem c_X10_sets_L35 {p : Program} {l : Launch} {e : Env} {s : State} {m : MethodId} {args : Array Value} {below : List Frame} {meth : Method} {c : Code} {dC : Nat → ClassId} {dI : Nat → Nat → Nat} {A : Nat → Prop} {cI cJ cZ : ClassId} {h_p0 : Nat} {ad_p0 : Nat → Nat} {p0_places : Int32} {p0_steps : Int32} {p0_pastFirst : Int32} {p0_past : Int32} {p0_goings : Int32} {p0_rowSize : Int32} {p0_ways : Int32} {p0_hasField : Int32} {p0_fieldSize : Int32} {p0_faultNow : Int32} {p0_hasTree : Int32} {p0_treeSize : Int32} {p0_weightCount : Int32} {p0_roundCount : Int32} {p0_answers : Nat → Int32} {p0_askers : Nat → Int32} {p0_puts : Nat → Int32} {p0_takes : Nat → Int32} {v2 : Int32} {z_p0_setCount : Int32} {z_p0_found : Nat → Int32} {post : Int32 → (Int32) → (Nat → Int32) → (Nat → Int32) → (Nat → Int32) → Prop} {K : (Int32) → (Int32) → (Nat → Int32) → Prop} (E0 : xEnv p s m args meth c cX10_sets (some .int) 4 RX10 wsX10_sets (dC, dI) cI cJ cZ A) (hk : ∀ (v3 : Int32) (p0_setCount : Int32) (p0_found : Nat → Int32) (H : Heap) (locs : List Loc) (ls : Array Slot), K v3 p0_setCount p0_found → va_P (dC, dI) vwCl (wld_X10_sets cI cJ cZ h_p0 ad_p0 p0_places p0_steps p0_pastFirst p0_past p0_goings p0_rowSize p0_ways p0_hasField p0_fieldSize p0_faultNow p0_hasTree p0_treeSize p0_weightCount p0_roundCount p0_setCount p0_answers p0_askers p0_found p0_puts p0_takes) H → va_D A (wld_X10_sets cI cJ cZ h_p0 ad_p0 p0_places p0_steps p0_pastFirst p0_past p0_goings p0_rowSize p0_ways p0_hasField p0_fieldSize p0_faultNow p0_hasTree p0_treeSize p0_weightCount p0_roundCount p0_setCount p0_answers p0_askers p0_found p0_puts p0_takes) → va_S A s.heap H locs → lv_has ls 4 [(0, .ref h_p0)] → W p l e ({ frames := 2, cells := 0, slots := 0, locals := 47 }) s m args below meth c H locs 0 0 (MQ below (q_X10_sets dC dI cI cJ cZ h_p0 ad_p0 p0_places p0_steps p0_pastFirst p0_past p0_goings p0_rowSize p0_ways p0_hasField p0_fieldSize p0_faultNow p0_hasTree p0_treeSize p0_weightCount p0_roundCount z_p0_setCount p0_answers p0_askers z_p0_found p0_puts p0_takes post A) args s 0 0 A) (F0 m 87 ls [])) : ∀ (n : Nat) (v3 : Int32) (p0_setCount : Int32) (p0_found : Nat → Int32), w_X10_sets_L35 v2 p0_places p0_steps p0_answers p0_askers p0_puts p0_takes post K n v3 p0_setCount p0_found → ∀ (H : Heap) (locs : List Loc) (ls : Array Slot), va_P (dC, dI) vwCl (wld_X10_sets cI cJ cZ h_p0 ad_p0 p0_places p0_steps p0_pastFirst p0_past p0_goings p0_rowSize p0_ways p0_hasField p0_fieldSize p0_faultNow p0_hasTree p0_treeSize p0_weightCount p0_roundCount p0_setCount p0_answers p0_askers p0_found p0_puts p0_takes) H → va_D A (wld_X10_sets cI cJ cZ h_p0 ad_p0 p0_places p0_steps p0_pastFirst p0_past p0_goings p0_rowSize p0_ways p0_hasField p0_fieldSize p0_faultNow p0_hasTree p0_treeSize p0_weightCount p0_roundCount p0_setCount p0_answers p0_askers p0_found p0_puts p0_takes) → va_S A s.heap H locs → lv_has ls 4 [(0, .ref h_p0), (2, .int v2), (3, .int v3)] → W p l e ({ frames := 2, cells := 0, slots := 0, locals := 47 }) s m args below meth c H locs 0 0 (MQ below (q_X10_sets dC dI cI cJ cZ h_p0 ad_p0 p0_places p0_steps p0_pastFirst p0_past p0_goings p0_rowSize p0_ways p0_hasField p0_fieldSize p0_faultNow p0_hasTree p0_treeSize p0_weightCount p0_roundCount z_p0_setCount p0_answers p0_askers z_p0_found p0_puts p0_takes post A) args s 0 0 A) (F0 m 35 ls []) := by
  obtain ⟨hx, hb, hr, hml, hown, hts, hlocks, hK, hA, n1, n2⟩ := id E0
  have iX10 : ∀ w ∈ u_ws RX10 TX10 50, w ∈ wsX10_sets := fun w h => List.mem_cons_of_mem _ (List.mem_append_right _ h)
  intro n
  induction n with
  | zero => intro v3 p0_setCount p0_found hw; exact hw.elim
  | succ n ih =>
    intro v3 p0_setCount p0_found hw H locs ls hP hD hS hl
    have hw : w_X10_sets_L35b v2 p0_places p0_steps p0_answers p0_askers p0_puts p0_takes post K (w_X10_sets_L35 v2 p0_places p0_steps p0_answers p0_askers p0_puts p0_takes post K n) v3 p0_setCount p0_found := hw
    unfold w_X10_sets_L35b at hw
    refine lv_iload_n hx hb dX10_sets_35 rfl (lv_at hl 2 rfl) ?_
    refine lv_iconst (v := 1) hx hb dX10_sets_36 (by decide) ?_
    refine lv_aload_n hx hb dX10_sets_37 rfl (lv_at hl 0 rfl) ?_
    refine va_get (D := (dC, dI)) (ci := 10) (v := .int p0_places) (C := RX10) (T := TX10) (N := 50) hx hb hts iX10 hown hK hP 0 rfl rfl 0 (by decide) (hts (.fieldLink RX10 127 "NetHouseModel" "places" "I") (by decide +kernel)) (fun _ h9 => h9) rfl dX10_sets_38 ?_
    refine lv_ishl hx hb dX10_sets_41 ?_
    refine lv_icmp_ge (tgt := 87) hx hb dX10_sets_42 (by decide) (fun c9 => ?_) (fun c10 => ?_)
    · have hw := hw.1 c9
      exact hk _ _ _ _ _ _ hw hP hD hS (lv_sub hl [0] rfl)
    · have hw := hw.2 c10
      refine lv_aload_n hx hb dX10_sets_45 rfl (lv_at hl 0 rfl) ?_
      refine va_get (D := (dC, dI)) (ci := 10) (v := .int p0_setCount) (C := RX10) (T := TX10) (N := 50) hx hb hts iX10 hown hK hP 0 rfl rfl 47 (by decide) (hts (.fieldLink RX10 149 "NetHouseModel" "setCount" "I") (by decide +kernel)) (fun _ h9 => h9) rfl dX10_sets_46 ?_
      refine lv_iload_n hx hb dX10_sets_49 rfl (lv_at hl 1 rfl) ?_
      refine lv_icmp_ge (tgt := 87) hx hb dX10_sets_50 (by decide) (fun c11 => ?_) (fun c12 => ?_)
      · have hw := hw.1 c11
        exact hk _ _ _ _ _ _ hw hP hD hS (lv_sub hl [0] rfl)
      · have hw := hw.2 c12
        refine lv_aload_n hx hb dX10_sets_53 rfl (lv_at hl 0 rfl) ?_
        refine lv_iload_n hx hb dX10_sets_54 rfl (lv_at hl 2 rfl) ?_
        obtain ⟨hPc, hDc⟩ := x_sub (wc := (wld_X10_isLeast cI cJ cZ h_p0 ad_p0 p0_places p0_steps p0_pastFirst p0_past p0_goings p0_rowSize p0_ways p0_hasField p0_fieldSize p0_faultNow p0_hasTree p0_treeSize p0_weightCount p0_roundCount p0_setCount p0_answers p0_askers)) hP hD [0, 1, 2] (n := 6) rfl rfl (by decide +kernel)
        refine x_calli (ws' := fun (u : Unit) => (wld_X10_sets cI cJ cZ h_p0 ad_p0 p0_places p0_steps p0_pastFirst p0_past p0_goings p0_rowSize p0_ways p0_hasField p0_fieldSize p0_faultNow p0_hasTree p0_treeSize p0_weightCount p0_roundCount p0_setCount p0_answers p0_askers p0_found p0_puts p0_takes)) hP hD hS hA [0, 1, 2] [3, 4, 5] [3, 4, 5, 0, 1, 2] (n := 6) (k := 3) rfl (fun _ => rfl) rfl (by decide +kernel) (fun _ => rfl) (va_runV (As := [.int v3]) (rest := []) ⟨hx, hb, hml, hown, hts⟩ (c_X10_isLeast (l := l) (dC := dC) (dI := dI) (cI := cI) (cJ := cJ) (cZ := cZ) (sz := H.size) (h_p0 := h_p0) (ad_p0 := ad_p0) (p0_places := p0_places) (p0_steps := p0_steps) (p0_pastFirst := p0_pastFirst) (p0_past := p0_past) (p0_goings := p0_goings) (p0_rowSize := p0_rowSize) (p0_ways := p0_ways) (p0_hasField := p0_hasField) (p0_fieldSize := p0_fieldSize) (p0_faultNow := p0_faultNow) (p0_hasTree := p0_hasTree) (p0_treeSize := p0_treeSize) (p0_weightCount := p0_weightCount) (p0_roundCount := p0_roundCount) (p0_setCount := p0_setCount) (p0_answers := p0_answers) (p0_askers := p0_askers) hw) (cwV 1 hts gX10_sets_X10_isLeast rfl rfl rfl (by decide +kernel) ⟨Nat.le_of_ble_eq_true rfl, Nat.le_of_ble_eq_true rfl⟩) ⟨xPre_blind, va_recv hK hP (ci := 10) (q0 := 0) rfl rfl, xPre_at hK hPc hDc n1 n2⟩ rfl rfl hl.1 rfl (lv_room (Nat.le_of_ble_eq_true rfl)) dX10_sets_55 ⟨Nat.zero_le _, Nat.zero_le _⟩) (fun r13 u H locs hw hP hD hS => ?_)
        try dsimp only at hw
        have hP : va_P (dC, dI) vwCl (wld_X10_sets cI cJ cZ h_p0 ad_p0 p0_places p0_steps p0_pastFirst p0_past p0_goings p0_rowSize p0_ways p0_hasField p0_fieldSize p0_faultNow p0_hasTree p0_treeSize p0_weightCount p0_roundCount p0_setCount p0_answers p0_askers p0_found p0_puts p0_takes) H := hP
        have hD : va_D A (wld_X10_sets cI cJ cZ h_p0 ad_p0 p0_places p0_steps p0_pastFirst p0_past p0_goings p0_rowSize p0_ways p0_hasField p0_fieldSize p0_faultNow p0_hasTree p0_treeSize p0_weightCount p0_roundCount p0_setCount p0_answers p0_askers p0_found p0_puts p0_takes) := hD
        refine lv_if_eq (tgt := 81) hx hb dX10_sets_58 (by decide) (fun c14 => ?_) (fun c15 => ?_)
        · have hw := hw.1 c14
          obtain ⟨x16, ex16⟩ : ∃ y : Int32, y = v3 + (1 : Int32) := ⟨_, rfl⟩
          have hw := hw x16 ex16
          refine lv_iinc (v := x16) (lv' := [(3, .int x16), (0, .ref h_p0), (2, .int v2)]) hx hb dX10_sets_81 hl (k := 2) rfl (by rw [ex16]; rfl) (by decide) rfl (fun ls hl => ?_)
          refine lv_goto (tgt := 35) hx hb dX10_sets_84 (by decide) ?_
          exact ih _ _ _ hw _ _ _ hP hD hS (lv_sub hl [1, 2, 0] rfl)
        · have hw := hw.2 c15
          refine lv_aload_n hx hb dX10_sets_61 rfl (lv_at hl 0 rfl) ?_
          refine va_get (D := (dC, dI)) (ci := 10) (v := .ref (ad_p0 46)) (C := RX10) (T := TX10) (N := 50) hx hb hts iX10 hown hK hP 0 rfl rfl 46 (by decide) (hts (.fieldLink RX10 115 "NetHouseModel" "found" "[I") (by decide +kernel)) (fun _ h9 => h9) rfl dX10_sets_62 ?_
          refine lv_aload_n hx hb dX10_sets_65 rfl (lv_at hl 0 rfl) ?_
          refine va_get (D := (dC, dI)) (ci := 10) (v := .int p0_setCount) (C := RX10) (T := TX10) (N := 50) hx hb hts iX10 hown hK hP 0 rfl rfl 47 (by decide) (hts (.fieldLink RX10 149 "NetHouseModel" "setCount" "I") (by decide +kernel)) (fun _ h9 => h9) rfl dX10_sets_66 ?_
          refine lv_iload_n hx hb dX10_sets_69 rfl (lv_at hl 2 rfl) ?_
          refine va_iast hx hb hK hP hD hS 3 0 rfl rfl hw.1 dX10_sets_70 (fun H locs hP hD hS => ?_)
          have hw := hw.2
          have hP : va_P (dC, dI) vwCl (wld_X10_sets cI cJ cZ h_p0 ad_p0 p0_places p0_steps p0_pastFirst p0_past p0_goings p0_rowSize p0_ways p0_hasField p0_fieldSize p0_faultNow p0_hasTree p0_treeSize p0_weightCount p0_roundCount p0_setCount p0_answers p0_askers (upd p0_found p0_setCount.toNatClampNeg v3) p0_puts p0_takes) H := hP
          have hD : va_D A (wld_X10_sets cI cJ cZ h_p0 ad_p0 p0_places p0_steps p0_pastFirst p0_past p0_goings p0_rowSize p0_ways p0_hasField p0_fieldSize p0_faultNow p0_hasTree p0_treeSize p0_weightCount p0_roundCount p0_setCount p0_answers p0_askers (upd p0_found p0_setCount.toNatClampNeg v3) p0_puts p0_takes) := hD
          refine lv_aload_n hx hb dX10_sets_71 rfl (lv_at hl 0 rfl) ?_
          refine lv_dup hx hb dX10_sets_72 rfl ?_
          refine va_get (D := (dC, dI)) (ci := 10) (v := .int p0_setCount) (C := RX10) (T := TX10) (N := 50) hx hb hts iX10 hown hK hP 0 rfl rfl 47 (by decide) (hts (.fieldLink RX10 149 "NetHouseModel" "setCount" "I") (by decide +kernel)) (fun _ h9 => h9) rfl dX10_sets_73 ?_
          refine lv_iconst (v := 1) hx hb dX10_sets_76 (by decide) ?_
          refine lv_iadd hx hb dX10_sets_77 ?_
          refine lv_topi (fun x17 ex17 => ?_)
          have hw := hw x17 ex17
          refine va_put (D := (dC, dI)) (ci := 10) (v := .int x17) (ty := .int) (C := RX10) (T := TX10) (N := 50) hx hb hts iX10 tyX10 tyX10_ok nmX10 hown hK hP hD hS 0 rfl rfl 47 (by decide) (hts (.fieldLink RX10 149 "NetHouseModel" "setCount" "I") (by decide +kernel)) (fun _ h9 => h9) rfl (by decide +kernel) rfl rfl (Nat.le_of_ble_eq_true rfl) dX10_sets_78 (fun H locs hP hD hS => ?_)
          have hP : va_P (dC, dI) vwCl (wld_X10_sets cI cJ cZ h_p0 ad_p0 p0_places p0_steps p0_pastFirst p0_past p0_goings p0_rowSize p0_ways p0_hasField p0_fieldSize p0_faultNow p0_hasTree p0_treeSize p0_weightCount p0_roundCount x17 p0_answers p0_askers (upd p0_found p0_setCount.toNatClampNeg v3) p0_puts p0_takes) H := hP
          have hD : va_D A (wld_X10_sets cI cJ cZ h_p0 ad_p0 p0_places p0_steps p0_pastFirst p0_past p0_goings p0_rowSize p0_ways p0_hasField p0_fieldSize p0_faultNow p0_hasTree p0_treeSize p0_weightCount p0_roundCount x17 p0_answers p0_askers (upd p0_found p0_setCount.toNatClampNeg v3) p0_puts p0_takes) := hD
          obtain ⟨x18, ex18⟩ : ∃ y : Int32, y = v3 + (1 : Int32) := ⟨_, rfl⟩
          have hw := hw x18 ex18
          refine lv_iinc (v := x18) (lv' := [(3, .int x18), (0, .ref h_p0), (2, .int v2)]) hx hb dX10_sets_81 hl (k := 2) rfl (by rw [ex18]; rfl) (by decide) rfl (fun ls hl => ?_)
          refine lv_goto (tgt := 35) hx hb dX10_sets_84 (by decide) ?_
          exact ih _ _ _ hw _ _ _ hP hD hS (lv_sub hl [1, 2, 0] rfl)
set_option maxHeartbeats 4000000 in
set_option maxRecDepth 100000 in
theorem c_X10_sets {l : Launch} {dC : Nat → ClassId} {dI : Nat → Nat → Nat} {sz : Nat} {cI cJ cZ : ClassId} {h_p0 : Nat} {ad_p0 : Nat → Nat} {p0_places : Int32} {p0_steps : Int32} {p0_pastFirst : Int32} {p0_past : Int32} {p0_goings : Int32} {p0_rowSize : Int32} {p0_ways : Int32} {p0_hasField : Int32} {p0_fieldSize : Int32} {p0_faultNow : Int32} {p0_hasTree : Int32} {p0_treeSize : Int32} {p0_weightCount : Int32} {p0_roundCount : Int32} {p0_setCount : Int32} {p0_answers : Nat → Int32} {p0_askers : Nat → Int32} {p0_found : Nat → Int32} {p0_puts : Nat → Int32} {p0_takes : Nat → Int32} {a1 : Int32} {a2 : Int32} {post : Int32 → (Int32) → (Nat → Int32) → (Nat → Int32) → (Nat → Int32) → Prop} (hw : w_X10_sets p0_places p0_setCount p0_steps p0_answers p0_askers p0_found p0_puts p0_takes a1 a2 post) : Met l yX10_sets wsX10_sets ({ frames := 2, cells := 0, slots := 0, locals := 47 }) (va_Pc [.ref h_p0, .int a1, .int a2] (xPre (dC, dI) cI cJ cZ (wld_X10_sets cI cJ cZ h_p0 ad_p0 p0_places p0_steps p0_pastFirst p0_past p0_goings p0_rowSize p0_ways p0_hasField p0_fieldSize p0_faultNow p0_hasTree p0_treeSize p0_weightCount p0_roundCount p0_setCount p0_answers p0_askers p0_found p0_puts p0_takes) sz)) (q_X10_sets dC dI cI cJ cZ h_p0 ad_p0 p0_places p0_steps p0_pastFirst p0_past p0_goings p0_rowSize p0_ways p0_hasField p0_fieldSize p0_faultNow p0_hasTree p0_treeSize p0_weightCount p0_roundCount p0_setCount p0_answers p0_askers p0_found p0_puts p0_takes post (va_A (wld_X10_sets cI cJ cZ h_p0 ad_p0 p0_places p0_steps p0_pastFirst p0_past p0_goings p0_rowSize p0_ways p0_hasField p0_fieldSize p0_faultNow p0_hasTree p0_treeSize p0_weightCount p0_roundCount p0_setCount p0_answers p0_askers p0_found p0_puts p0_takes) sz)) 0 0 (va_A (wld_X10_sets cI cJ cZ h_p0 ad_p0 p0_places p0_steps p0_pastFirst p0_past p0_goings p0_rowSize p0_ways p0_hasField p0_fieldSize p0_faultNow p0_hasTree p0_treeSize p0_weightCount p0_roundCount p0_setCount p0_answers p0_askers p0_found p0_puts p0_takes) sz) := by
  refine x_met (cc := cX10_sets) (maxL := 4) (ret := (some .int)) (own := RX10) (Qc := fun A => (q_X10_sets dC dI cI cJ cZ h_p0 ad_p0 p0_places p0_steps p0_pastFirst p0_past p0_goings p0_rowSize p0_ways p0_hasField p0_fieldSize p0_faultNow p0_hasTree p0_treeSize p0_weightCount p0_roundCount p0_setCount p0_answers p0_askers p0_found p0_puts p0_takes post A)) (by decide) rfl rfl (Nat.le_of_ble_eq_true rfl) ?_
  intro p e s m args below meth c A ls E0 hP hD hS hl
  obtain ⟨hx, hb, hr, hml, hown, hts, hlocks, hK, hA, n1, n2⟩ := id E0
  have iX10 : ∀ w ∈ u_ws RX10 TX10 50, w ∈ wsX10_sets := fun w h => List.mem_cons_of_mem _ (List.mem_append_right _ h)
  have hS0 := hS
  have hl : lv_has ls 4 [(0, .ref h_p0), (1, .int a1), (2, .int a2)] := hl
  unfold w_X10_sets at hw
  obtain ⟨H, hH⟩ : ∃ H, H = s.heap := ⟨_, rfl⟩
  have hS : va_S A s.heap H [] := by rw [hH]; exact hS
  have hP : va_P (dC, dI) vwCl (wld_X10_sets cI cJ cZ h_p0 ad_p0 p0_places p0_steps p0_pastFirst p0_past p0_goings p0_rowSize p0_ways p0_hasField p0_fieldSize p0_faultNow p0_hasTree p0_treeSize p0_weightCount p0_roundCount p0_setCount p0_answers p0_askers p0_found p0_puts p0_takes) H := by rw [hH]; exact hP
  suffices hG : W p l e ({ frames := 2, cells := 0, slots := 0, locals := 47 }) s m args below meth c H [] 0 0 (MQ below (q_X10_sets dC dI cI cJ cZ h_p0 ad_p0 p0_places p0_steps p0_pastFirst p0_past p0_goings p0_rowSize p0_ways p0_hasField p0_fieldSize p0_faultNow p0_hasTree p0_treeSize p0_weightCount p0_roundCount p0_setCount p0_answers p0_askers p0_found p0_puts p0_takes post A) args s 0 0 A) (F0 m 0 ls []) by rw [hH] at hG; exact hG
  clear hH
  refine lv_iload_n hx hb dX10_sets_0 rfl (lv_at hl 1 rfl) ?_
  refine lv_iconst (v := 0) hx hb dX10_sets_1 (by decide) ?_
  refine lv_iconst (v := 1) hx hb dX10_sets_2 (by decide) ?_
  obtain ⟨hPc, hDc⟩ := x_sub (wc := (wld_X10_isIn cI cJ cZ )) hP hD [] (n := 6) rfl rfl (by decide +kernel)
  refine x_calli (ws' := fun (u : Unit) => (wld_X10_sets cI cJ cZ h_p0 ad_p0 p0_places p0_steps p0_pastFirst p0_past p0_goings p0_rowSize p0_ways p0_hasField p0_fieldSize p0_faultNow p0_hasTree p0_treeSize p0_weightCount p0_roundCount p0_setCount p0_answers p0_askers p0_found p0_puts p0_takes)) hP hD hS hA [] [0, 1, 2, 3, 4, 5] [0, 1, 2, 3, 4, 5] (n := 6) (k := 0) rfl (fun _ => rfl) rfl (by decide +kernel) (fun _ => rfl) (va_runS (As := [.int a1, .int (0 : Int32), .int (1 : Int32)]) (rest := []) ⟨hx, hb, hml, hown, hts⟩ (c_X10_isIn (l := l) (dC := dC) (dI := dI) (cI := cI) (cJ := cJ) (cZ := cZ) (sz := H.size) hw) (va_cwS 3 hts gX10_sets_X10_isIn rfl rfl rfl (by decide +kernel) ⟨Nat.le_of_ble_eq_true rfl, Nat.le_of_ble_eq_true rfl⟩) ⟨xPre_blind, xPre_at hK hPc hDc n1 n2⟩ rfl rfl hl.1 rfl (lv_room (Nat.le_of_ble_eq_true rfl)) dX10_sets_3 ⟨Nat.zero_le _, Nat.zero_le _⟩) (fun r1 u H locs hw hP hD hS => ?_)
  try dsimp only at hw
  have hP : va_P (dC, dI) vwCl (wld_X10_sets cI cJ cZ h_p0 ad_p0 p0_places p0_steps p0_pastFirst p0_past p0_goings p0_rowSize p0_ways p0_hasField p0_fieldSize p0_faultNow p0_hasTree p0_treeSize p0_weightCount p0_roundCount p0_setCount p0_answers p0_askers p0_found p0_puts p0_takes) H := hP
  have hD : va_D A (wld_X10_sets cI cJ cZ h_p0 ad_p0 p0_places p0_steps p0_pastFirst p0_past p0_goings p0_rowSize p0_ways p0_hasField p0_fieldSize p0_faultNow p0_hasTree p0_treeSize p0_weightCount p0_roundCount p0_setCount p0_answers p0_askers p0_found p0_puts p0_takes) := hD
  refine lv_if_eq (tgt := 20) hx hb dX10_sets_6 (by decide) (fun c2 => ?_) (fun c3 => ?_)
  · have hw := hw.1 c2
    refine lv_ldc (v := -2000000001) hx hb hown (hts (.constant RX10 159 (-2000000001)) (by decide +kernel)) dX10_sets_20 ?_
    exact x_iret (w1 := fun (u : (Int32) × (Nat → Int32) × (Nat → Int32) × (Nat → Int32)) => (wld_X10_sets cI cJ cZ h_p0 ad_p0 p0_places p0_steps p0_pastFirst p0_past p0_goings p0_rowSize p0_ways p0_hasField p0_fieldSize p0_faultNow p0_hasTree p0_treeSize p0_weightCount p0_roundCount (u.1) (u.2.1) (u.2.2.1) (u.2.2.2) p0_puts p0_takes)) hx hb hr hlocks (p0_setCount, p0_answers, p0_askers, p0_found) hw hP hD hS dX10_sets_22
  · have hw := hw.2 c3
    refine lv_iload_n hx hb dX10_sets_9 rfl (lv_at hl 2 rfl) ?_
    refine lv_iconst (v := 1) hx hb dX10_sets_10 (by decide) ?_
    refine lv_sipush (v := 500) hx hb dX10_sets_11 (by decide) ?_
    obtain ⟨hPc, hDc⟩ := x_sub (wc := (wld_X10_isIn cI cJ cZ )) hP hD [] (n := 6) rfl rfl (by decide +kernel)
    refine x_calli (ws' := fun (u : Unit) => (wld_X10_sets cI cJ cZ h_p0 ad_p0 p0_places p0_steps p0_pastFirst p0_past p0_goings p0_rowSize p0_ways p0_hasField p0_fieldSize p0_faultNow p0_hasTree p0_treeSize p0_weightCount p0_roundCount p0_setCount p0_answers p0_askers p0_found p0_puts p0_takes)) hP hD hS hA [] [0, 1, 2, 3, 4, 5] [0, 1, 2, 3, 4, 5] (n := 6) (k := 0) rfl (fun _ => rfl) rfl (by decide +kernel) (fun _ => rfl) (va_runS (As := [.int a2, .int (1 : Int32), .int (500 : Int32)]) (rest := []) ⟨hx, hb, hml, hown, hts⟩ (c_X10_isIn (l := l) (dC := dC) (dI := dI) (cI := cI) (cJ := cJ) (cZ := cZ) (sz := H.size) hw) (va_cwS 3 hts gX10_sets_X10_isIn rfl rfl rfl (by decide +kernel) ⟨Nat.le_of_ble_eq_true rfl, Nat.le_of_ble_eq_true rfl⟩) ⟨xPre_blind, xPre_at hK hPc hDc n1 n2⟩ rfl rfl hl.1 rfl (lv_room (Nat.le_of_ble_eq_true rfl)) dX10_sets_14 ⟨Nat.zero_le _, Nat.zero_le _⟩) (fun r4 u H locs hw hP hD hS => ?_)
    try dsimp only at hw
    have hP : va_P (dC, dI) vwCl (wld_X10_sets cI cJ cZ h_p0 ad_p0 p0_places p0_steps p0_pastFirst p0_past p0_goings p0_rowSize p0_ways p0_hasField p0_fieldSize p0_faultNow p0_hasTree p0_treeSize p0_weightCount p0_roundCount p0_setCount p0_answers p0_askers p0_found p0_puts p0_takes) H := hP
    have hD : va_D A (wld_X10_sets cI cJ cZ h_p0 ad_p0 p0_places p0_steps p0_pastFirst p0_past p0_goings p0_rowSize p0_ways p0_hasField p0_fieldSize p0_faultNow p0_hasTree p0_treeSize p0_weightCount p0_roundCount p0_setCount p0_answers p0_askers p0_found p0_puts p0_takes) := hD
    refine lv_if_ne (tgt := 23) hx hb dX10_sets_17 (by decide) (fun c5 => ?_) (fun c6 => ?_)
    · have hw := hw.1 c5
      refine lv_aload_n hx hb dX10_sets_23 rfl (lv_at hl 0 rfl) ?_
      refine lv_iload_n hx hb dX10_sets_24 rfl (lv_at hl 1 rfl) ?_
      obtain ⟨hPc, hDc⟩ := x_sub (wc := (wld_X10_readSteps cI cJ cZ h_p0 ad_p0 p0_places p0_steps p0_pastFirst p0_past p0_goings p0_rowSize p0_ways p0_hasField p0_fieldSize p0_faultNow p0_hasTree p0_treeSize p0_weightCount p0_roundCount p0_setCount p0_answers p0_askers p0_puts p0_takes)) hP hD [0, 1, 2, 4, 5] (n := 6) rfl rfl (by decide +kernel)
      refine x_callv (ws' := fun (u : (Nat → Int32) × (Nat → Int32)) => (wld_X10_sets cI cJ cZ h_p0 ad_p0 p0_places p0_steps p0_pastFirst p0_past p0_goings p0_rowSize p0_ways p0_hasField p0_fieldSize p0_faultNow p0_hasTree p0_treeSize p0_weightCount p0_roundCount p0_setCount (u.1) (u.2) p0_found p0_puts p0_takes)) hP hD hS hA [0, 1, 2, 4, 5] [3] [1, 2, 3, 0, 4, 5] (n := 6) (k := 5) rfl (fun _ => rfl) rfl (by decide +kernel) (fun _ => rfl) (va_runV (As := [.int a1]) (rest := []) ⟨hx, hb, hml, hown, hts⟩ (c_X10_readSteps (l := l) (dC := dC) (dI := dI) (cI := cI) (cJ := cJ) (cZ := cZ) (sz := H.size) (h_p0 := h_p0) (ad_p0 := ad_p0) (p0_places := p0_places) (p0_steps := p0_steps) (p0_pastFirst := p0_pastFirst) (p0_past := p0_past) (p0_goings := p0_goings) (p0_rowSize := p0_rowSize) (p0_ways := p0_ways) (p0_hasField := p0_hasField) (p0_fieldSize := p0_fieldSize) (p0_faultNow := p0_faultNow) (p0_hasTree := p0_hasTree) (p0_treeSize := p0_treeSize) (p0_weightCount := p0_weightCount) (p0_roundCount := p0_roundCount) (p0_setCount := p0_setCount) (p0_answers := p0_answers) (p0_askers := p0_askers) (p0_puts := p0_puts) (p0_takes := p0_takes) hw) (cwV 1 hts gX10_sets_X10_readSteps rfl rfl rfl (by decide +kernel) ⟨Nat.le_of_ble_eq_true rfl, Nat.le_of_ble_eq_true rfl⟩) ⟨xPre_blind, va_recv hK hP (ci := 10) (q0 := 0) rfl rfl, xPre_at hK hPc hDc n1 n2⟩ rfl rfl hl.1 rfl (lv_room (Nat.le_of_ble_eq_true rfl)) dX10_sets_25 ⟨Nat.zero_le _, Nat.zero_le _⟩) (fun u H locs hw hP hD hS => ?_)
      obtain ⟨y7, y8⟩ := u
      try dsimp only at hw
      have hP : va_P (dC, dI) vwCl (wld_X10_sets cI cJ cZ h_p0 ad_p0 p0_places p0_steps p0_pastFirst p0_past p0_goings p0_rowSize p0_ways p0_hasField p0_fieldSize p0_faultNow p0_hasTree p0_treeSize p0_weightCount p0_roundCount p0_setCount y7 y8 p0_found p0_puts p0_takes) H := hP
      have hD : va_D A (wld_X10_sets cI cJ cZ h_p0 ad_p0 p0_places p0_steps p0_pastFirst p0_past p0_goings p0_rowSize p0_ways p0_hasField p0_fieldSize p0_faultNow p0_hasTree p0_treeSize p0_weightCount p0_roundCount p0_setCount y7 y8 p0_found p0_puts p0_takes) := hD
      refine lv_aload_n hx hb dX10_sets_28 rfl (lv_at hl 0 rfl) ?_
      refine lv_iconst (v := 0) hx hb dX10_sets_29 (by decide) ?_
      refine va_put (D := (dC, dI)) (ci := 10) (v := .int (0 : Int32)) (ty := .int) (C := RX10) (T := TX10) (N := 50) hx hb hts iX10 tyX10 tyX10_ok nmX10 hown hK hP hD hS 0 rfl rfl 47 (by decide) (hts (.fieldLink RX10 149 "NetHouseModel" "setCount" "I") (by decide +kernel)) (fun _ h9 => h9) rfl (by decide +kernel) rfl rfl (Nat.le_of_ble_eq_true rfl) dX10_sets_30 (fun H locs hP hD hS => ?_)
      have hP : va_P (dC, dI) vwCl (wld_X10_sets cI cJ cZ h_p0 ad_p0 p0_places p0_steps p0_pastFirst p0_past p0_goings p0_rowSize p0_ways p0_hasField p0_fieldSize p0_faultNow p0_hasTree p0_treeSize p0_weightCount p0_roundCount (0 : Int32) y7 y8 p0_found p0_puts p0_takes) H := hP
      have hD : va_D A (wld_X10_sets cI cJ cZ h_p0 ad_p0 p0_places p0_steps p0_pastFirst p0_past p0_goings p0_rowSize p0_ways p0_hasField p0_fieldSize p0_faultNow p0_hasTree p0_treeSize p0_weightCount p0_roundCount (0 : Int32) y7 y8 p0_found p0_puts p0_takes) := hD
      refine lv_iconst (v := 1) hx hb dX10_sets_33 (by decide) ?_
      refine lv_istore_n (lv' := [(3, .int (1 : Int32)), (0, .ref h_p0), (1, .int a1), (2, .int a2)]) hx hb dX10_sets_34 rfl hl (by decide) rfl (fun ls hl => ?_)
      obtain ⟨n19, hw⟩ := hw
      refine c_X10_sets_L35 (l := l) (z_p0_setCount := (0 : Int32)) (z_p0_found := p0_found) E0 ?_ n19 _ _ _ hw _ _ _ hP hD hS (lv_sub hl [1, 3, 0] rfl)
      · intro v20 s21 s22 H locs ls hw hP hD hS hl
        have hP : va_P (dC, dI) vwCl (wld_X10_sets cI cJ cZ h_p0 ad_p0 p0_places p0_steps p0_pastFirst p0_past p0_goings p0_rowSize p0_ways p0_hasField p0_fieldSize p0_faultNow p0_hasTree p0_treeSize p0_weightCount p0_roundCount s21 y7 y8 s22 p0_puts p0_takes) H := hP
        have hD : va_D A (wld_X10_sets cI cJ cZ h_p0 ad_p0 p0_places p0_steps p0_pastFirst p0_past p0_goings p0_rowSize p0_ways p0_hasField p0_fieldSize p0_faultNow p0_hasTree p0_treeSize p0_weightCount p0_roundCount s21 y7 y8 s22 p0_puts p0_takes) := hD
        refine lv_aload_n hx hb dX10_sets_87 rfl (lv_at hl 0 rfl) ?_
        refine va_get (D := (dC, dI)) (ci := 10) (v := .int s21) (C := RX10) (T := TX10) (N := 50) hx hb hts iX10 hown hK hP 0 rfl rfl 47 (by decide) (hts (.fieldLink RX10 149 "NetHouseModel" "setCount" "I") (by decide +kernel)) (fun _ h9 => h9) rfl dX10_sets_88 ?_
        exact x_iret (w1 := fun (u : (Int32) × (Nat → Int32) × (Nat → Int32) × (Nat → Int32)) => (wld_X10_sets cI cJ cZ h_p0 ad_p0 p0_places p0_steps p0_pastFirst p0_past p0_goings p0_rowSize p0_ways p0_hasField p0_fieldSize p0_faultNow p0_hasTree p0_treeSize p0_weightCount p0_roundCount (u.1) (u.2.1) (u.2.2.1) (u.2.2.2) p0_puts p0_takes)) hx hb hr hlocks (s21, y7, y8, s22) hw hP hD hS dX10_sets_91
    · have hw := hw.2 c6
      refine lv_ldc (v := -2000000001) hx hb hown (hts (.constant RX10 159 (-2000000001)) (by decide +kernel)) dX10_sets_20 ?_
      exact x_iret (w1 := fun (u : (Int32) × (Nat → Int32) × (Nat → Int32) × (Nat → Int32)) => (wld_X10_sets cI cJ cZ h_p0 ad_p0 p0_places p0_steps p0_pastFirst p0_past p0_goings p0_rowSize p0_ways p0_hasField p0_fieldSize p0_faultNow p0_hasTree p0_treeSize p0_weightCount p0_roundCount (u.1) (u.2.1) (u.2.2.1) (u.2.2.2) p0_puts p0_takes)) hx hb hr hlocks (p0_setCount, p0_answers, p0_askers, p0_found) hw hP hD hS dX10_sets_22
abbrev wld_X10_bits (cI cJ cZ : ClassId) (h_p0 : Nat) (ad_p0 : Nat → Nat) (p0_places : Int32) (p0_steps : Int32) (p0_pastFirst : Int32) (p0_past : Int32) (p0_goings : Int32) (p0_rowSize : Int32) (p0_ways : Int32) (p0_hasField : Int32) (p0_fieldSize : Int32) (p0_faultNow : Int32) (p0_hasTree : Int32) (p0_treeSize : Int32) (p0_weightCount : Int32) (p0_roundCount : Int32) (p0_setCount : Int32) (p0_found : Nat → Int32) : va_W := [(h_p0, .inr (10, [.int p0_places, .int p0_steps, .ref (ad_p0 2), .ref (ad_p0 3), .ref (ad_p0 4), .ref (ad_p0 5), .ref (ad_p0 6), .ref (ad_p0 7), .ref (ad_p0 8), .ref (ad_p0 9), .ref (ad_p0 10), .ref (ad_p0 11), .ref (ad_p0 12), .ref (ad_p0 13), .ref (ad_p0 14), .int p0_pastFirst, .int p0_past, .int p0_goings, .int p0_rowSize, .ref (ad_p0 19), .ref (ad_p0 20), .int p0_ways, .ref (ad_p0 22), .ref (ad_p0 23), .int p0_hasField, .int p0_fieldSize, .ref (ad_p0 26), .ref (ad_p0 27), .ref (ad_p0 28), .ref (ad_p0 29), .ref (ad_p0 30), .ref (ad_p0 31), .ref (ad_p0 32), .int p0_faultNow, .int p0_hasTree, .int p0_treeSize, .ref (ad_p0 36), .ref (ad_p0 37), .ref (ad_p0 38), .ref (ad_p0 39), .ref (ad_p0 40), .ref (ad_p0 41), .ref (ad_p0 42), .int p0_weightCount, .ref (ad_p0 44), .int p0_roundCount, .ref (ad_p0 46), .int p0_setCount, .ref (ad_p0 48), .ref (ad_p0 49)])), ((ad_p0 46), .inl (cI, 500, .inl p0_found))]
abbrev q_X10_bits (dC : Nat → ClassId) (dI : Nat → Nat → Nat) (cI cJ cZ : ClassId) (h_p0 : Nat) (ad_p0 : Nat → Nat) (p0_places : Int32) (p0_steps : Int32) (p0_pastFirst : Int32) (p0_past : Int32) (p0_goings : Int32) (p0_rowSize : Int32) (p0_ways : Int32) (p0_hasField : Int32) (p0_fieldSize : Int32) (p0_faultNow : Int32) (p0_hasTree : Int32) (p0_treeSize : Int32) (p0_weightCount : Int32) (p0_roundCount : Int32) (p0_setCount : Int32) (p0_found : Nat → Int32) (post : Int32 → Prop) (A : Nat → Prop) : Array Value → State → Outcome → State → Prop := va_Qi (fun r (u : Unit) => post r ) (fun (u : Unit) t => xPost (dC, dI) A (wld_X10_bits cI cJ cZ h_p0 ad_p0 p0_places p0_steps p0_pastFirst p0_past p0_goings p0_rowSize p0_ways p0_hasField p0_fieldSize p0_faultNow p0_hasTree p0_treeSize p0_weightCount p0_roundCount p0_setCount p0_found) t) A
def w_X10_bits (p0_setCount : Int32) (p0_found : Nat → Int32) (a1 : Int32) (post : Int32 → Prop) : Prop :=
  w_X10_isIn a1 (0 : Int32) (p0_setCount - (1 : Int32)) (fun r1 =>
  (r1 = 0 →
    (post (-2000000001 : Int32))) ∧
  (¬ r1 = 0 →
    vp_in a1 500 ∧
    (post (p0_found a1.toNatClampNeg))))
set_option maxHeartbeats 4000000 in
set_option maxRecDepth 100000 in
theorem c_X10_bits {l : Launch} {dC : Nat → ClassId} {dI : Nat → Nat → Nat} {sz : Nat} {cI cJ cZ : ClassId} {h_p0 : Nat} {ad_p0 : Nat → Nat} {p0_places : Int32} {p0_steps : Int32} {p0_pastFirst : Int32} {p0_past : Int32} {p0_goings : Int32} {p0_rowSize : Int32} {p0_ways : Int32} {p0_hasField : Int32} {p0_fieldSize : Int32} {p0_faultNow : Int32} {p0_hasTree : Int32} {p0_treeSize : Int32} {p0_weightCount : Int32} {p0_roundCount : Int32} {p0_setCount : Int32} {p0_found : Nat → Int32} {a1 : Int32} {post : Int32 → Prop} (hw : w_X10_bits p0_setCount p0_found a1 post) : Met l yX10_bits wsX10_bits ({ frames := 1, cells := 0, slots := 0, locals := 22 }) (va_Pc [.ref h_p0, .int a1] (xPre (dC, dI) cI cJ cZ (wld_X10_bits cI cJ cZ h_p0 ad_p0 p0_places p0_steps p0_pastFirst p0_past p0_goings p0_rowSize p0_ways p0_hasField p0_fieldSize p0_faultNow p0_hasTree p0_treeSize p0_weightCount p0_roundCount p0_setCount p0_found) sz)) (q_X10_bits dC dI cI cJ cZ h_p0 ad_p0 p0_places p0_steps p0_pastFirst p0_past p0_goings p0_rowSize p0_ways p0_hasField p0_fieldSize p0_faultNow p0_hasTree p0_treeSize p0_weightCount p0_roundCount p0_setCount p0_found post (va_A (wld_X10_bits cI cJ cZ h_p0 ad_p0 p0_places p0_steps p0_pastFirst p0_past p0_goings p0_rowSize p0_ways p0_hasField p0_fieldSize p0_faultNow p0_hasTree p0_treeSize p0_weightCount p0_roundCount p0_setCount p0_found) sz)) 0 0 (va_A (wld_X10_bits cI cJ cZ h_p0 ad_p0 p0_places p0_steps p0_pastFirst p0_past p0_goings p0_rowSize p0_ways p0_hasField p0_fieldSize p0_faultNow p0_hasTree p0_treeSize p0_weightCount p0_roundCount p0_setCount p0_found) sz) := by
  refine x_met (cc := cX10_bits) (maxL := 2) (ret := (some .int)) (own := RX10) (Qc := fun A => (q_X10_bits dC dI cI cJ cZ h_p0 ad_p0 p0_places p0_steps p0_pastFirst p0_past p0_goings p0_rowSize p0_ways p0_hasField p0_fieldSize p0_faultNow p0_hasTree p0_treeSize p0_weightCount p0_roundCount p0_setCount p0_found post A)) (by decide) rfl rfl (Nat.le_of_ble_eq_true rfl) ?_
  intro p e s m args below meth c A ls E0 hP hD hS hl
  obtain ⟨hx, hb, hr, hml, hown, hts, hlocks, hK, hA, n1, n2⟩ := id E0
  have iX10 : ∀ w ∈ u_ws RX10 TX10 50, w ∈ wsX10_bits := fun w h => List.mem_cons_of_mem _ (List.mem_append_right _ h)
  have hS0 := hS
  have hl : lv_has ls 2 [(0, .ref h_p0), (1, .int a1)] := hl
  unfold w_X10_bits at hw
  obtain ⟨H, hH⟩ : ∃ H, H = s.heap := ⟨_, rfl⟩
  have hS : va_S A s.heap H [] := by rw [hH]; exact hS
  have hP : va_P (dC, dI) vwCl (wld_X10_bits cI cJ cZ h_p0 ad_p0 p0_places p0_steps p0_pastFirst p0_past p0_goings p0_rowSize p0_ways p0_hasField p0_fieldSize p0_faultNow p0_hasTree p0_treeSize p0_weightCount p0_roundCount p0_setCount p0_found) H := by rw [hH]; exact hP
  suffices hG : W p l e ({ frames := 1, cells := 0, slots := 0, locals := 22 }) s m args below meth c H [] 0 0 (MQ below (q_X10_bits dC dI cI cJ cZ h_p0 ad_p0 p0_places p0_steps p0_pastFirst p0_past p0_goings p0_rowSize p0_ways p0_hasField p0_fieldSize p0_faultNow p0_hasTree p0_treeSize p0_weightCount p0_roundCount p0_setCount p0_found post A) args s 0 0 A) (F0 m 0 ls []) by rw [hH] at hG; exact hG
  clear hH
  refine lv_iload_n hx hb dX10_bits_0 rfl (lv_at hl 1 rfl) ?_
  refine lv_iconst (v := 0) hx hb dX10_bits_1 (by decide) ?_
  refine lv_aload_n hx hb dX10_bits_2 rfl (lv_at hl 0 rfl) ?_
  refine va_get (D := (dC, dI)) (ci := 10) (v := .int p0_setCount) (C := RX10) (T := TX10) (N := 50) hx hb hts iX10 hown hK hP 0 rfl rfl 47 (by decide) (hts (.fieldLink RX10 149 "NetHouseModel" "setCount" "I") (by decide +kernel)) (fun _ h9 => h9) rfl dX10_bits_3 ?_
  refine lv_iconst (v := 1) hx hb dX10_bits_6 (by decide) ?_
  refine lv_isub hx hb dX10_bits_7 ?_
  obtain ⟨hPc, hDc⟩ := x_sub (wc := (wld_X10_isIn cI cJ cZ )) hP hD [] (n := 2) rfl rfl (by decide +kernel)
  refine x_calli (ws' := fun (u : Unit) => (wld_X10_bits cI cJ cZ h_p0 ad_p0 p0_places p0_steps p0_pastFirst p0_past p0_goings p0_rowSize p0_ways p0_hasField p0_fieldSize p0_faultNow p0_hasTree p0_treeSize p0_weightCount p0_roundCount p0_setCount p0_found)) hP hD hS hA [] [0, 1] [0, 1] (n := 2) (k := 0) rfl (fun _ => rfl) rfl (by decide +kernel) (fun _ => rfl) (va_runS (As := [.int a1, .int (0 : Int32), .int (p0_setCount - (1 : Int32))]) (rest := []) ⟨hx, hb, hml, hown, hts⟩ (c_X10_isIn (l := l) (dC := dC) (dI := dI) (cI := cI) (cJ := cJ) (cZ := cZ) (sz := H.size) hw) (va_cwS 3 hts gX10_bits_X10_isIn rfl rfl rfl (by decide +kernel) ⟨Nat.le_of_ble_eq_true rfl, Nat.le_of_ble_eq_true rfl⟩) ⟨xPre_blind, xPre_at hK hPc hDc n1 n2⟩ rfl rfl hl.1 rfl (lv_room (Nat.le_of_ble_eq_true rfl)) dX10_bits_8 ⟨Nat.zero_le _, Nat.zero_le _⟩) (fun r1 u H locs hw hP hD hS => ?_)
  try dsimp only at hw
  have hP : va_P (dC, dI) vwCl (wld_X10_bits cI cJ cZ h_p0 ad_p0 p0_places p0_steps p0_pastFirst p0_past p0_goings p0_rowSize p0_ways p0_hasField p0_fieldSize p0_faultNow p0_hasTree p0_treeSize p0_weightCount p0_roundCount p0_setCount p0_found) H := hP
  have hD : va_D A (wld_X10_bits cI cJ cZ h_p0 ad_p0 p0_places p0_steps p0_pastFirst p0_past p0_goings p0_rowSize p0_ways p0_hasField p0_fieldSize p0_faultNow p0_hasTree p0_treeSize p0_weightCount p0_roundCount p0_setCount p0_found) := hD
  refine lv_if_eq (tgt := 23) hx hb dX10_bits_11 (by decide) (fun c2 => ?_) (fun c3 => ?_)
  · have hw := hw.1 c2
    refine lv_ldc (v := -2000000001) hx hb hown (hts (.constant RX10 159 (-2000000001)) (by decide +kernel)) dX10_bits_23 ?_
    exact x_iret (w1 := fun (u : Unit) => (wld_X10_bits cI cJ cZ h_p0 ad_p0 p0_places p0_steps p0_pastFirst p0_past p0_goings p0_rowSize p0_ways p0_hasField p0_fieldSize p0_faultNow p0_hasTree p0_treeSize p0_weightCount p0_roundCount p0_setCount p0_found)) hx hb hr hlocks () hw hP hD hS dX10_bits_25
  · have hw := hw.2 c3
    refine lv_aload_n hx hb dX10_bits_14 rfl (lv_at hl 0 rfl) ?_
    refine va_get (D := (dC, dI)) (ci := 10) (v := .ref (ad_p0 46)) (C := RX10) (T := TX10) (N := 50) hx hb hts iX10 hown hK hP 0 rfl rfl 46 (by decide) (hts (.fieldLink RX10 115 "NetHouseModel" "found" "[I") (by decide +kernel)) (fun _ h9 => h9) rfl dX10_bits_15 ?_
    refine lv_iload_n hx hb dX10_bits_18 rfl (lv_at hl 1 rfl) ?_
    refine va_iald hx hb hK hP 1 0 rfl rfl hw.1 dX10_bits_19 ?_
    have hw := hw.2
    refine lv_goto (tgt := 25) hx hb dX10_bits_20 (by decide) ?_
    exact x_iret (w1 := fun (u : Unit) => (wld_X10_bits cI cJ cZ h_p0 ad_p0 p0_places p0_steps p0_pastFirst p0_past p0_goings p0_rowSize p0_ways p0_hasField p0_fieldSize p0_faultNow p0_hasTree p0_treeSize p0_weightCount p0_roundCount p0_setCount p0_found)) hx hb hr hlocks () hw hP hD hS dX10_bits_25
abbrev wld_X10_areBits (cI cJ cZ : ClassId) (h_p0 : Nat) (ad_p0 : Nat → Nat) (p0_places : Int32) (p0_steps : Int32) (p0_pastFirst : Int32) (p0_past : Int32) (p0_goings : Int32) (p0_rowSize : Int32) (p0_ways : Int32) (p0_hasField : Int32) (p0_fieldSize : Int32) (p0_faultNow : Int32) (p0_hasTree : Int32) (p0_treeSize : Int32) (p0_weightCount : Int32) (p0_roundCount : Int32) (p0_setCount : Int32) : va_W := [(h_p0, .inr (10, [.int p0_places, .int p0_steps, .ref (ad_p0 2), .ref (ad_p0 3), .ref (ad_p0 4), .ref (ad_p0 5), .ref (ad_p0 6), .ref (ad_p0 7), .ref (ad_p0 8), .ref (ad_p0 9), .ref (ad_p0 10), .ref (ad_p0 11), .ref (ad_p0 12), .ref (ad_p0 13), .ref (ad_p0 14), .int p0_pastFirst, .int p0_past, .int p0_goings, .int p0_rowSize, .ref (ad_p0 19), .ref (ad_p0 20), .int p0_ways, .ref (ad_p0 22), .ref (ad_p0 23), .int p0_hasField, .int p0_fieldSize, .ref (ad_p0 26), .ref (ad_p0 27), .ref (ad_p0 28), .ref (ad_p0 29), .ref (ad_p0 30), .ref (ad_p0 31), .ref (ad_p0 32), .int p0_faultNow, .int p0_hasTree, .int p0_treeSize, .ref (ad_p0 36), .ref (ad_p0 37), .ref (ad_p0 38), .ref (ad_p0 39), .ref (ad_p0 40), .ref (ad_p0 41), .ref (ad_p0 42), .int p0_weightCount, .ref (ad_p0 44), .int p0_roundCount, .ref (ad_p0 46), .int p0_setCount, .ref (ad_p0 48), .ref (ad_p0 49)]))]
abbrev q_X10_areBits (dC : Nat → ClassId) (dI : Nat → Nat → Nat) (cI cJ cZ : ClassId) (h_p0 : Nat) (ad_p0 : Nat → Nat) (p0_places : Int32) (p0_steps : Int32) (p0_pastFirst : Int32) (p0_past : Int32) (p0_goings : Int32) (p0_rowSize : Int32) (p0_ways : Int32) (p0_hasField : Int32) (p0_fieldSize : Int32) (p0_faultNow : Int32) (p0_hasTree : Int32) (p0_treeSize : Int32) (p0_weightCount : Int32) (p0_roundCount : Int32) (p0_setCount : Int32) (post : Int32 → Prop) (A : Nat → Prop) : Array Value → State → Outcome → State → Prop := va_Qi (fun r (u : Unit) => post r ) (fun (u : Unit) t => xPost (dC, dI) A (wld_X10_areBits cI cJ cZ h_p0 ad_p0 p0_places p0_steps p0_pastFirst p0_past p0_goings p0_rowSize p0_ways p0_hasField p0_fieldSize p0_faultNow p0_hasTree p0_treeSize p0_weightCount p0_roundCount p0_setCount) t) A
def w_X10_areBits (p0_places : Int32) (a1 : Int32) (a2 : Int32) (post : Int32 → Prop) : Prop :=
  w_X10_isIn a2 (0 : Int32) (1 : Int32) (fun r1 =>
  (r1 = 0 →
    (post (0 : Int32))) ∧
  (¬ r1 = 0 →
    w_X10_isIn a1 (0 : Int32) (((1 : Int32) <<< (p0_places &&& 31)) - (1 : Int32)) (fun r4 =>
    (r4 = 0 →
      (post (0 : Int32))) ∧
    (¬ r4 = 0 →
      (post (1 : Int32))))))
set_option maxHeartbeats 4000000 in
set_option maxRecDepth 100000 in
theorem c_X10_areBits {l : Launch} {dC : Nat → ClassId} {dI : Nat → Nat → Nat} {sz : Nat} {cI cJ cZ : ClassId} {h_p0 : Nat} {ad_p0 : Nat → Nat} {p0_places : Int32} {p0_steps : Int32} {p0_pastFirst : Int32} {p0_past : Int32} {p0_goings : Int32} {p0_rowSize : Int32} {p0_ways : Int32} {p0_hasField : Int32} {p0_fieldSize : Int32} {p0_faultNow : Int32} {p0_hasTree : Int32} {p0_treeSize : Int32} {p0_weightCount : Int32} {p0_roundCount : Int32} {p0_setCount : Int32} {a1 : Int32} {a2 : Int32} {post : Int32 → Prop} (hw : w_X10_areBits p0_places a1 a2 post) : Met l yX10_areBits wsX10_areBits ({ frames := 1, cells := 0, slots := 0, locals := 22 }) (va_Pc [.ref h_p0, .int a1, .int a2] (xPre (dC, dI) cI cJ cZ (wld_X10_areBits cI cJ cZ h_p0 ad_p0 p0_places p0_steps p0_pastFirst p0_past p0_goings p0_rowSize p0_ways p0_hasField p0_fieldSize p0_faultNow p0_hasTree p0_treeSize p0_weightCount p0_roundCount p0_setCount) sz)) (q_X10_areBits dC dI cI cJ cZ h_p0 ad_p0 p0_places p0_steps p0_pastFirst p0_past p0_goings p0_rowSize p0_ways p0_hasField p0_fieldSize p0_faultNow p0_hasTree p0_treeSize p0_weightCount p0_roundCount p0_setCount post (va_A (wld_X10_areBits cI cJ cZ h_p0 ad_p0 p0_places p0_steps p0_pastFirst p0_past p0_goings p0_rowSize p0_ways p0_hasField p0_fieldSize p0_faultNow p0_hasTree p0_treeSize p0_weightCount p0_roundCount p0_setCount) sz)) 0 0 (va_A (wld_X10_areBits cI cJ cZ h_p0 ad_p0 p0_places p0_steps p0_pastFirst p0_past p0_goings p0_rowSize p0_ways p0_hasField p0_fieldSize p0_faultNow p0_hasTree p0_treeSize p0_weightCount p0_roundCount p0_setCount) sz) := by
  refine x_met (cc := cX10_areBits) (maxL := 3) (ret := (some .boolean)) (own := RX10) (Qc := fun A => (q_X10_areBits dC dI cI cJ cZ h_p0 ad_p0 p0_places p0_steps p0_pastFirst p0_past p0_goings p0_rowSize p0_ways p0_hasField p0_fieldSize p0_faultNow p0_hasTree p0_treeSize p0_weightCount p0_roundCount p0_setCount post A)) (by decide) rfl rfl (Nat.le_of_ble_eq_true rfl) ?_
  intro p e s m args below meth c A ls E0 hP hD hS hl
  obtain ⟨hx, hb, hr, hml, hown, hts, hlocks, hK, hA, n1, n2⟩ := id E0
  have iX10 : ∀ w ∈ u_ws RX10 TX10 50, w ∈ wsX10_areBits := fun w h => List.mem_cons_of_mem _ (List.mem_append_right _ h)
  have hS0 := hS
  have hl : lv_has ls 3 [(0, .ref h_p0), (1, .int a1), (2, .int a2)] := hl
  unfold w_X10_areBits at hw
  obtain ⟨H, hH⟩ : ∃ H, H = s.heap := ⟨_, rfl⟩
  have hS : va_S A s.heap H [] := by rw [hH]; exact hS
  have hP : va_P (dC, dI) vwCl (wld_X10_areBits cI cJ cZ h_p0 ad_p0 p0_places p0_steps p0_pastFirst p0_past p0_goings p0_rowSize p0_ways p0_hasField p0_fieldSize p0_faultNow p0_hasTree p0_treeSize p0_weightCount p0_roundCount p0_setCount) H := by rw [hH]; exact hP
  suffices hG : W p l e ({ frames := 1, cells := 0, slots := 0, locals := 22 }) s m args below meth c H [] 0 0 (MQ below (q_X10_areBits dC dI cI cJ cZ h_p0 ad_p0 p0_places p0_steps p0_pastFirst p0_past p0_goings p0_rowSize p0_ways p0_hasField p0_fieldSize p0_faultNow p0_hasTree p0_treeSize p0_weightCount p0_roundCount p0_setCount post A) args s 0 0 A) (F0 m 0 ls []) by rw [hH] at hG; exact hG
  clear hH
  refine lv_iload_n hx hb dX10_areBits_0 rfl (lv_at hl 2 rfl) ?_
  refine lv_iconst (v := 0) hx hb dX10_areBits_1 (by decide) ?_
  refine lv_iconst (v := 1) hx hb dX10_areBits_2 (by decide) ?_
  obtain ⟨hPc, hDc⟩ := x_sub (wc := (wld_X10_isIn cI cJ cZ )) hP hD [] (n := 1) rfl rfl (by decide +kernel)
  refine x_calli (ws' := fun (u : Unit) => (wld_X10_areBits cI cJ cZ h_p0 ad_p0 p0_places p0_steps p0_pastFirst p0_past p0_goings p0_rowSize p0_ways p0_hasField p0_fieldSize p0_faultNow p0_hasTree p0_treeSize p0_weightCount p0_roundCount p0_setCount)) hP hD hS hA [] [0] [0] (n := 1) (k := 0) rfl (fun _ => rfl) rfl (by decide +kernel) (fun _ => rfl) (va_runS (As := [.int a2, .int (0 : Int32), .int (1 : Int32)]) (rest := []) ⟨hx, hb, hml, hown, hts⟩ (c_X10_isIn (l := l) (dC := dC) (dI := dI) (cI := cI) (cJ := cJ) (cZ := cZ) (sz := H.size) hw) (va_cwS 3 hts gX10_areBits_X10_isIn rfl rfl rfl (by decide +kernel) ⟨Nat.le_of_ble_eq_true rfl, Nat.le_of_ble_eq_true rfl⟩) ⟨xPre_blind, xPre_at hK hPc hDc n1 n2⟩ rfl rfl hl.1 rfl (lv_room (Nat.le_of_ble_eq_true rfl)) dX10_areBits_3 ⟨Nat.zero_le _, Nat.zero_le _⟩) (fun r1 u H locs hw hP hD hS => ?_)
  try dsimp only at hw
  have hP : va_P (dC, dI) vwCl (wld_X10_areBits cI cJ cZ h_p0 ad_p0 p0_places p0_steps p0_pastFirst p0_past p0_goings p0_rowSize p0_ways p0_hasField p0_fieldSize p0_faultNow p0_hasTree p0_treeSize p0_weightCount p0_roundCount p0_setCount) H := hP
  have hD : va_D A (wld_X10_areBits cI cJ cZ h_p0 ad_p0 p0_places p0_steps p0_pastFirst p0_past p0_goings p0_rowSize p0_ways p0_hasField p0_fieldSize p0_faultNow p0_hasTree p0_treeSize p0_weightCount p0_roundCount p0_setCount) := hD
  refine lv_if_eq (tgt := 29) hx hb dX10_areBits_6 (by decide) (fun c2 => ?_) (fun c3 => ?_)
  · have hw := hw.1 c2
    refine lv_iconst (v := 0) hx hb dX10_areBits_29 (by decide) ?_
    exact x_zret (w1 := fun (u : Unit) => (wld_X10_areBits cI cJ cZ h_p0 ad_p0 p0_places p0_steps p0_pastFirst p0_past p0_goings p0_rowSize p0_ways p0_hasField p0_fieldSize p0_faultNow p0_hasTree p0_treeSize p0_weightCount p0_roundCount p0_setCount)) hx hb hr hlocks (by decide) () hw hP hD hS dX10_areBits_30
  · have hw := hw.2 c3
    refine lv_iload_n hx hb dX10_areBits_9 rfl (lv_at hl 1 rfl) ?_
    refine lv_iconst (v := 0) hx hb dX10_areBits_10 (by decide) ?_
    refine lv_iconst (v := 1) hx hb dX10_areBits_11 (by decide) ?_
    refine lv_aload_n hx hb dX10_areBits_12 rfl (lv_at hl 0 rfl) ?_
    refine va_get (D := (dC, dI)) (ci := 10) (v := .int p0_places) (C := RX10) (T := TX10) (N := 50) hx hb hts iX10 hown hK hP 0 rfl rfl 0 (by decide) (hts (.fieldLink RX10 127 "NetHouseModel" "places" "I") (by decide +kernel)) (fun _ h9 => h9) rfl dX10_areBits_13 ?_
    refine lv_ishl hx hb dX10_areBits_16 ?_
    refine lv_iconst (v := 1) hx hb dX10_areBits_17 (by decide) ?_
    refine lv_isub hx hb dX10_areBits_18 ?_
    obtain ⟨hPc, hDc⟩ := x_sub (wc := (wld_X10_isIn cI cJ cZ )) hP hD [] (n := 1) rfl rfl (by decide +kernel)
    refine x_calli (ws' := fun (u : Unit) => (wld_X10_areBits cI cJ cZ h_p0 ad_p0 p0_places p0_steps p0_pastFirst p0_past p0_goings p0_rowSize p0_ways p0_hasField p0_fieldSize p0_faultNow p0_hasTree p0_treeSize p0_weightCount p0_roundCount p0_setCount)) hP hD hS hA [] [0] [0] (n := 1) (k := 0) rfl (fun _ => rfl) rfl (by decide +kernel) (fun _ => rfl) (va_runS (As := [.int a1, .int (0 : Int32), .int (((1 : Int32) <<< (p0_places &&& 31)) - (1 : Int32))]) (rest := []) ⟨hx, hb, hml, hown, hts⟩ (c_X10_isIn (l := l) (dC := dC) (dI := dI) (cI := cI) (cJ := cJ) (cZ := cZ) (sz := H.size) hw) (va_cwS 3 hts gX10_areBits_X10_isIn rfl rfl rfl (by decide +kernel) ⟨Nat.le_of_ble_eq_true rfl, Nat.le_of_ble_eq_true rfl⟩) ⟨xPre_blind, xPre_at hK hPc hDc n1 n2⟩ rfl rfl hl.1 rfl (lv_room (Nat.le_of_ble_eq_true rfl)) dX10_areBits_19 ⟨Nat.zero_le _, Nat.zero_le _⟩) (fun r4 u H locs hw hP hD hS => ?_)
    try dsimp only at hw
    have hP : va_P (dC, dI) vwCl (wld_X10_areBits cI cJ cZ h_p0 ad_p0 p0_places p0_steps p0_pastFirst p0_past p0_goings p0_rowSize p0_ways p0_hasField p0_fieldSize p0_faultNow p0_hasTree p0_treeSize p0_weightCount p0_roundCount p0_setCount) H := hP
    have hD : va_D A (wld_X10_areBits cI cJ cZ h_p0 ad_p0 p0_places p0_steps p0_pastFirst p0_past p0_goings p0_rowSize p0_ways p0_hasField p0_fieldSize p0_faultNow p0_hasTree p0_treeSize p0_weightCount p0_roundCount p0_setCount) := hD
    refine lv_if_eq (tgt := 29) hx hb dX10_areBits_22 (by decide) (fun c5 => ?_) (fun c6 => ?_)
    · have hw := hw.1 c5
      refine lv_iconst (v := 0) hx hb dX10_areBits_29 (by decide) ?_
      exact x_zret (w1 := fun (u : Unit) => (wld_X10_areBits cI cJ cZ h_p0 ad_p0 p0_places p0_steps p0_pastFirst p0_past p0_goings p0_rowSize p0_ways p0_hasField p0_fieldSize p0_faultNow p0_hasTree p0_treeSize p0_weightCount p0_roundCount p0_setCount)) hx hb hr hlocks (by decide) () hw hP hD hS dX10_areBits_30
    · have hw := hw.2 c6
      refine lv_iconst (v := 1) hx hb dX10_areBits_25 (by decide) ?_
      refine lv_goto (tgt := 30) hx hb dX10_areBits_26 (by decide) ?_
      exact x_zret (w1 := fun (u : Unit) => (wld_X10_areBits cI cJ cZ h_p0 ad_p0 p0_places p0_steps p0_pastFirst p0_past p0_goings p0_rowSize p0_ways p0_hasField p0_fieldSize p0_faultNow p0_hasTree p0_treeSize p0_weightCount p0_roundCount p0_setCount)) hx hb hr hlocks (by decide) () hw hP hD hS dX10_areBits_30
abbrev wld_X10_isSet (cI cJ cZ : ClassId) (h_p0 : Nat) (ad_p0 : Nat → Nat) (p0_places : Int32) (p0_steps : Int32) (p0_pastFirst : Int32) (p0_past : Int32) (p0_goings : Int32) (p0_rowSize : Int32) (p0_ways : Int32) (p0_hasField : Int32) (p0_fieldSize : Int32) (p0_faultNow : Int32) (p0_hasTree : Int32) (p0_treeSize : Int32) (p0_weightCount : Int32) (p0_roundCount : Int32) (p0_setCount : Int32) (p0_answers : Nat → Int32) (p0_askers : Nat → Int32) (p0_puts : Nat → Int32) (p0_takes : Nat → Int32) : va_W := [(h_p0, .inr (10, [.int p0_places, .int p0_steps, .ref (ad_p0 2), .ref (ad_p0 3), .ref (ad_p0 4), .ref (ad_p0 5), .ref (ad_p0 6), .ref (ad_p0 7), .ref (ad_p0 8), .ref (ad_p0 9), .ref (ad_p0 10), .ref (ad_p0 11), .ref (ad_p0 12), .ref (ad_p0 13), .ref (ad_p0 14), .int p0_pastFirst, .int p0_past, .int p0_goings, .int p0_rowSize, .ref (ad_p0 19), .ref (ad_p0 20), .int p0_ways, .ref (ad_p0 22), .ref (ad_p0 23), .int p0_hasField, .int p0_fieldSize, .ref (ad_p0 26), .ref (ad_p0 27), .ref (ad_p0 28), .ref (ad_p0 29), .ref (ad_p0 30), .ref (ad_p0 31), .ref (ad_p0 32), .int p0_faultNow, .int p0_hasTree, .int p0_treeSize, .ref (ad_p0 36), .ref (ad_p0 37), .ref (ad_p0 38), .ref (ad_p0 39), .ref (ad_p0 40), .ref (ad_p0 41), .ref (ad_p0 42), .int p0_weightCount, .ref (ad_p0 44), .int p0_roundCount, .ref (ad_p0 46), .int p0_setCount, .ref (ad_p0 48), .ref (ad_p0 49)])), ((ad_p0 49), .inl (cI, 16, .inl p0_answers)), ((ad_p0 48), .inl (cI, 16, .inl p0_askers)), ((ad_p0 5), .inl (cI, 256, .inl p0_puts)), ((ad_p0 4), .inl (cI, 256, .inl p0_takes))]
abbrev q_X10_isSet (dC : Nat → ClassId) (dI : Nat → Nat → Nat) (cI cJ cZ : ClassId) (h_p0 : Nat) (ad_p0 : Nat → Nat) (p0_places : Int32) (p0_steps : Int32) (p0_pastFirst : Int32) (p0_past : Int32) (p0_goings : Int32) (p0_rowSize : Int32) (p0_ways : Int32) (p0_hasField : Int32) (p0_fieldSize : Int32) (p0_faultNow : Int32) (p0_hasTree : Int32) (p0_treeSize : Int32) (p0_weightCount : Int32) (p0_roundCount : Int32) (p0_setCount : Int32) (p0_answers : Nat → Int32) (p0_askers : Nat → Int32) (p0_puts : Nat → Int32) (p0_takes : Nat → Int32) (post : Int32 → (Nat → Int32) → (Nat → Int32) → Prop) (A : Nat → Prop) : Array Value → State → Outcome → State → Prop := va_Qi (fun r (u : (Nat → Int32) × (Nat → Int32)) => post r (u.1) (u.2)) (fun (u : (Nat → Int32) × (Nat → Int32)) t => xPost (dC, dI) A (wld_X10_isSet cI cJ cZ h_p0 ad_p0 p0_places p0_steps p0_pastFirst p0_past p0_goings p0_rowSize p0_ways p0_hasField p0_fieldSize p0_faultNow p0_hasTree p0_treeSize p0_weightCount p0_roundCount p0_setCount (u.1) (u.2) p0_puts p0_takes) t) A
def w_X10_isSet (p0_places : Int32) (p0_steps : Int32) (p0_answers : Nat → Int32) (p0_askers : Nat → Int32) (p0_puts : Nat → Int32) (p0_takes : Nat → Int32) (a1 : Int32) (a2 : Int32) (post : Int32 → (Nat → Int32) → (Nat → Int32) → Prop) : Prop :=
  w_X10_areBits p0_places a1 a2 (fun r1 =>
  (¬ r1 = 0 →
    w_X10_readSteps p0_places p0_steps p0_answers p0_askers p0_puts p0_takes a2 (fun y4 y5 =>
    w_X10_isKept p0_steps y4 y5 a1 (fun r6 =>
    (r6 = 0 →
      (post (0 : Int32) y4 y5)) ∧
    (¬ r6 = 0 →
      (post (1 : Int32) y4 y5))))) ∧
  (r1 = 0 →
    (post (-2000000001 : Int32) p0_answers p0_askers)))
set_option maxHeartbeats 4000000 in
set_option maxRecDepth 100000 in
theorem c_X10_isSet {l : Launch} {dC : Nat → ClassId} {dI : Nat → Nat → Nat} {sz : Nat} {cI cJ cZ : ClassId} {h_p0 : Nat} {ad_p0 : Nat → Nat} {p0_places : Int32} {p0_steps : Int32} {p0_pastFirst : Int32} {p0_past : Int32} {p0_goings : Int32} {p0_rowSize : Int32} {p0_ways : Int32} {p0_hasField : Int32} {p0_fieldSize : Int32} {p0_faultNow : Int32} {p0_hasTree : Int32} {p0_treeSize : Int32} {p0_weightCount : Int32} {p0_roundCount : Int32} {p0_setCount : Int32} {p0_answers : Nat → Int32} {p0_askers : Nat → Int32} {p0_puts : Nat → Int32} {p0_takes : Nat → Int32} {a1 : Int32} {a2 : Int32} {post : Int32 → (Nat → Int32) → (Nat → Int32) → Prop} (hw : w_X10_isSet p0_places p0_steps p0_answers p0_askers p0_puts p0_takes a1 a2 post) : Met l yX10_isSet wsX10_isSet ({ frames := 2, cells := 0, slots := 0, locals := 47 }) (va_Pc [.ref h_p0, .int a1, .int a2] (xPre (dC, dI) cI cJ cZ (wld_X10_isSet cI cJ cZ h_p0 ad_p0 p0_places p0_steps p0_pastFirst p0_past p0_goings p0_rowSize p0_ways p0_hasField p0_fieldSize p0_faultNow p0_hasTree p0_treeSize p0_weightCount p0_roundCount p0_setCount p0_answers p0_askers p0_puts p0_takes) sz)) (q_X10_isSet dC dI cI cJ cZ h_p0 ad_p0 p0_places p0_steps p0_pastFirst p0_past p0_goings p0_rowSize p0_ways p0_hasField p0_fieldSize p0_faultNow p0_hasTree p0_treeSize p0_weightCount p0_roundCount p0_setCount p0_answers p0_askers p0_puts p0_takes post (va_A (wld_X10_isSet cI cJ cZ h_p0 ad_p0 p0_places p0_steps p0_pastFirst p0_past p0_goings p0_rowSize p0_ways p0_hasField p0_fieldSize p0_faultNow p0_hasTree p0_treeSize p0_weightCount p0_roundCount p0_setCount p0_answers p0_askers p0_puts p0_takes) sz)) 0 0 (va_A (wld_X10_isSet cI cJ cZ h_p0 ad_p0 p0_places p0_steps p0_pastFirst p0_past p0_goings p0_rowSize p0_ways p0_hasField p0_fieldSize p0_faultNow p0_hasTree p0_treeSize p0_weightCount p0_roundCount p0_setCount p0_answers p0_askers p0_puts p0_takes) sz) := by
  refine x_met (cc := cX10_isSet) (maxL := 3) (ret := (some .int)) (own := RX10) (Qc := fun A => (q_X10_isSet dC dI cI cJ cZ h_p0 ad_p0 p0_places p0_steps p0_pastFirst p0_past p0_goings p0_rowSize p0_ways p0_hasField p0_fieldSize p0_faultNow p0_hasTree p0_treeSize p0_weightCount p0_roundCount p0_setCount p0_answers p0_askers p0_puts p0_takes post A)) (by decide) rfl rfl (Nat.le_of_ble_eq_true rfl) ?_
  intro p e s m args below meth c A ls E0 hP hD hS hl
  obtain ⟨hx, hb, hr, hml, hown, hts, hlocks, hK, hA, n1, n2⟩ := id E0
  have iX10 : ∀ w ∈ u_ws RX10 TX10 50, w ∈ wsX10_isSet := fun w h => List.mem_cons_of_mem _ (List.mem_append_right _ h)
  have hS0 := hS
  have hl : lv_has ls 3 [(0, .ref h_p0), (1, .int a1), (2, .int a2)] := hl
  unfold w_X10_isSet at hw
  obtain ⟨H, hH⟩ : ∃ H, H = s.heap := ⟨_, rfl⟩
  have hS : va_S A s.heap H [] := by rw [hH]; exact hS
  have hP : va_P (dC, dI) vwCl (wld_X10_isSet cI cJ cZ h_p0 ad_p0 p0_places p0_steps p0_pastFirst p0_past p0_goings p0_rowSize p0_ways p0_hasField p0_fieldSize p0_faultNow p0_hasTree p0_treeSize p0_weightCount p0_roundCount p0_setCount p0_answers p0_askers p0_puts p0_takes) H := by rw [hH]; exact hP
  suffices hG : W p l e ({ frames := 2, cells := 0, slots := 0, locals := 47 }) s m args below meth c H [] 0 0 (MQ below (q_X10_isSet dC dI cI cJ cZ h_p0 ad_p0 p0_places p0_steps p0_pastFirst p0_past p0_goings p0_rowSize p0_ways p0_hasField p0_fieldSize p0_faultNow p0_hasTree p0_treeSize p0_weightCount p0_roundCount p0_setCount p0_answers p0_askers p0_puts p0_takes post A) args s 0 0 A) (F0 m 0 ls []) by rw [hH] at hG; exact hG
  clear hH
  refine lv_aload_n hx hb dX10_isSet_0 rfl (lv_at hl 0 rfl) ?_
  refine lv_iload_n hx hb dX10_isSet_1 rfl (lv_at hl 1 rfl) ?_
  refine lv_iload_n hx hb dX10_isSet_2 rfl (lv_at hl 2 rfl) ?_
  obtain ⟨hPc, hDc⟩ := x_sub (wc := (wld_X10_areBits cI cJ cZ h_p0 ad_p0 p0_places p0_steps p0_pastFirst p0_past p0_goings p0_rowSize p0_ways p0_hasField p0_fieldSize p0_faultNow p0_hasTree p0_treeSize p0_weightCount p0_roundCount p0_setCount)) hP hD [0] (n := 5) rfl rfl (by decide +kernel)
  refine x_calli (ws' := fun (u : Unit) => (wld_X10_isSet cI cJ cZ h_p0 ad_p0 p0_places p0_steps p0_pastFirst p0_past p0_goings p0_rowSize p0_ways p0_hasField p0_fieldSize p0_faultNow p0_hasTree p0_treeSize p0_weightCount p0_roundCount p0_setCount p0_answers p0_askers p0_puts p0_takes)) hP hD hS hA [0] [1, 2, 3, 4] [4, 0, 1, 2, 3] (n := 5) (k := 1) rfl (fun _ => rfl) rfl (by decide +kernel) (fun _ => rfl) (va_runV (As := [.int a1, .int a2]) (rest := []) ⟨hx, hb, hml, hown, hts⟩ (c_X10_areBits (l := l) (dC := dC) (dI := dI) (cI := cI) (cJ := cJ) (cZ := cZ) (sz := H.size) (h_p0 := h_p0) (ad_p0 := ad_p0) (p0_places := p0_places) (p0_steps := p0_steps) (p0_pastFirst := p0_pastFirst) (p0_past := p0_past) (p0_goings := p0_goings) (p0_rowSize := p0_rowSize) (p0_ways := p0_ways) (p0_hasField := p0_hasField) (p0_fieldSize := p0_fieldSize) (p0_faultNow := p0_faultNow) (p0_hasTree := p0_hasTree) (p0_treeSize := p0_treeSize) (p0_weightCount := p0_weightCount) (p0_roundCount := p0_roundCount) (p0_setCount := p0_setCount) hw) (cwV 2 hts gX10_isSet_X10_areBits rfl rfl rfl (by decide +kernel) ⟨Nat.le_of_ble_eq_true rfl, Nat.le_of_ble_eq_true rfl⟩) ⟨xPre_blind, va_recv hK hP (ci := 10) (q0 := 0) rfl rfl, xPre_at hK hPc hDc n1 n2⟩ rfl rfl hl.1 rfl (lv_room (Nat.le_of_ble_eq_true rfl)) dX10_isSet_3 ⟨Nat.zero_le _, Nat.zero_le _⟩) (fun r1 u H locs hw hP hD hS => ?_)
  try dsimp only at hw
  have hP : va_P (dC, dI) vwCl (wld_X10_isSet cI cJ cZ h_p0 ad_p0 p0_places p0_steps p0_pastFirst p0_past p0_goings p0_rowSize p0_ways p0_hasField p0_fieldSize p0_faultNow p0_hasTree p0_treeSize p0_weightCount p0_roundCount p0_setCount p0_answers p0_askers p0_puts p0_takes) H := hP
  have hD : va_D A (wld_X10_isSet cI cJ cZ h_p0 ad_p0 p0_places p0_steps p0_pastFirst p0_past p0_goings p0_rowSize p0_ways p0_hasField p0_fieldSize p0_faultNow p0_hasTree p0_treeSize p0_weightCount p0_roundCount p0_setCount p0_answers p0_askers p0_puts p0_takes) := hD
  refine lv_if_ne (tgt := 12) hx hb dX10_isSet_6 (by decide) (fun c2 => ?_) (fun c3 => ?_)
  · have hw := hw.1 c2
    refine lv_aload_n hx hb dX10_isSet_12 rfl (lv_at hl 0 rfl) ?_
    refine lv_iload_n hx hb dX10_isSet_13 rfl (lv_at hl 2 rfl) ?_
    obtain ⟨hPc, hDc⟩ := x_sub (wc := (wld_X10_readSteps cI cJ cZ h_p0 ad_p0 p0_places p0_steps p0_pastFirst p0_past p0_goings p0_rowSize p0_ways p0_hasField p0_fieldSize p0_faultNow p0_hasTree p0_treeSize p0_weightCount p0_roundCount p0_setCount p0_answers p0_askers p0_puts p0_takes)) hP hD [0, 1, 2, 3, 4] (n := 5) rfl rfl (by decide +kernel)
    refine x_callv (ws' := fun (u : (Nat → Int32) × (Nat → Int32)) => (wld_X10_isSet cI cJ cZ h_p0 ad_p0 p0_places p0_steps p0_pastFirst p0_past p0_goings p0_rowSize p0_ways p0_hasField p0_fieldSize p0_faultNow p0_hasTree p0_treeSize p0_weightCount p0_roundCount p0_setCount (u.1) (u.2) p0_puts p0_takes)) hP hD hS hA [0, 1, 2, 3, 4] [] [0, 1, 2, 3, 4] (n := 5) (k := 5) rfl (fun _ => rfl) rfl (by decide +kernel) (fun _ => rfl) (va_runV (As := [.int a2]) (rest := []) ⟨hx, hb, hml, hown, hts⟩ (c_X10_readSteps (l := l) (dC := dC) (dI := dI) (cI := cI) (cJ := cJ) (cZ := cZ) (sz := H.size) (h_p0 := h_p0) (ad_p0 := ad_p0) (p0_places := p0_places) (p0_steps := p0_steps) (p0_pastFirst := p0_pastFirst) (p0_past := p0_past) (p0_goings := p0_goings) (p0_rowSize := p0_rowSize) (p0_ways := p0_ways) (p0_hasField := p0_hasField) (p0_fieldSize := p0_fieldSize) (p0_faultNow := p0_faultNow) (p0_hasTree := p0_hasTree) (p0_treeSize := p0_treeSize) (p0_weightCount := p0_weightCount) (p0_roundCount := p0_roundCount) (p0_setCount := p0_setCount) (p0_answers := p0_answers) (p0_askers := p0_askers) (p0_puts := p0_puts) (p0_takes := p0_takes) hw) (cwV 1 hts gX10_isSet_X10_readSteps rfl rfl rfl (by decide +kernel) ⟨Nat.le_of_ble_eq_true rfl, Nat.le_of_ble_eq_true rfl⟩) ⟨xPre_blind, va_recv hK hP (ci := 10) (q0 := 0) rfl rfl, xPre_at hK hPc hDc n1 n2⟩ rfl rfl hl.1 rfl (lv_room (Nat.le_of_ble_eq_true rfl)) dX10_isSet_14 ⟨Nat.zero_le _, Nat.zero_le _⟩) (fun u H locs hw hP hD hS => ?_)
    obtain ⟨y4, y5⟩ := u
    try dsimp only at hw
    have hP : va_P (dC, dI) vwCl (wld_X10_isSet cI cJ cZ h_p0 ad_p0 p0_places p0_steps p0_pastFirst p0_past p0_goings p0_rowSize p0_ways p0_hasField p0_fieldSize p0_faultNow p0_hasTree p0_treeSize p0_weightCount p0_roundCount p0_setCount y4 y5 p0_puts p0_takes) H := hP
    have hD : va_D A (wld_X10_isSet cI cJ cZ h_p0 ad_p0 p0_places p0_steps p0_pastFirst p0_past p0_goings p0_rowSize p0_ways p0_hasField p0_fieldSize p0_faultNow p0_hasTree p0_treeSize p0_weightCount p0_roundCount p0_setCount y4 y5 p0_puts p0_takes) := hD
    refine lv_aload_n hx hb dX10_isSet_17 rfl (lv_at hl 0 rfl) ?_
    refine lv_iload_n hx hb dX10_isSet_18 rfl (lv_at hl 1 rfl) ?_
    obtain ⟨hPc, hDc⟩ := x_sub (wc := (wld_X10_isKept cI cJ cZ h_p0 ad_p0 p0_places p0_steps p0_pastFirst p0_past p0_goings p0_rowSize p0_ways p0_hasField p0_fieldSize p0_faultNow p0_hasTree p0_treeSize p0_weightCount p0_roundCount p0_setCount y4 y5)) hP hD [0, 1, 2] (n := 5) rfl rfl (by decide +kernel)
    refine x_calli (ws' := fun (u : Unit) => (wld_X10_isSet cI cJ cZ h_p0 ad_p0 p0_places p0_steps p0_pastFirst p0_past p0_goings p0_rowSize p0_ways p0_hasField p0_fieldSize p0_faultNow p0_hasTree p0_treeSize p0_weightCount p0_roundCount p0_setCount y4 y5 p0_puts p0_takes)) hP hD hS hA [0, 1, 2] [3, 4] [2, 3, 4, 0, 1] (n := 5) (k := 3) rfl (fun _ => rfl) rfl (by decide +kernel) (fun _ => rfl) (va_runV (As := [.int a1]) (rest := []) ⟨hx, hb, hml, hown, hts⟩ (c_X10_isKept (l := l) (dC := dC) (dI := dI) (cI := cI) (cJ := cJ) (cZ := cZ) (sz := H.size) (h_p0 := h_p0) (ad_p0 := ad_p0) (p0_places := p0_places) (p0_steps := p0_steps) (p0_pastFirst := p0_pastFirst) (p0_past := p0_past) (p0_goings := p0_goings) (p0_rowSize := p0_rowSize) (p0_ways := p0_ways) (p0_hasField := p0_hasField) (p0_fieldSize := p0_fieldSize) (p0_faultNow := p0_faultNow) (p0_hasTree := p0_hasTree) (p0_treeSize := p0_treeSize) (p0_weightCount := p0_weightCount) (p0_roundCount := p0_roundCount) (p0_setCount := p0_setCount) (p0_answers := y4) (p0_askers := y5) hw) (cwV 1 hts gX10_isSet_X10_isKept rfl rfl rfl (by decide +kernel) ⟨Nat.le_of_ble_eq_true rfl, Nat.le_of_ble_eq_true rfl⟩) ⟨xPre_blind, va_recv hK hP (ci := 10) (q0 := 0) rfl rfl, xPre_at hK hPc hDc n1 n2⟩ rfl rfl hl.1 rfl (lv_room (Nat.le_of_ble_eq_true rfl)) dX10_isSet_19 ⟨Nat.zero_le _, Nat.zero_le _⟩) (fun r6 u H locs hw hP hD hS => ?_)
    try dsimp only at hw
    have hP : va_P (dC, dI) vwCl (wld_X10_isSet cI cJ cZ h_p0 ad_p0 p0_places p0_steps p0_pastFirst p0_past p0_goings p0_rowSize p0_ways p0_hasField p0_fieldSize p0_faultNow p0_hasTree p0_treeSize p0_weightCount p0_roundCount p0_setCount y4 y5 p0_puts p0_takes) H := hP
    have hD : va_D A (wld_X10_isSet cI cJ cZ h_p0 ad_p0 p0_places p0_steps p0_pastFirst p0_past p0_goings p0_rowSize p0_ways p0_hasField p0_fieldSize p0_faultNow p0_hasTree p0_treeSize p0_weightCount p0_roundCount p0_setCount y4 y5 p0_puts p0_takes) := hD
    refine lv_if_eq (tgt := 29) hx hb dX10_isSet_22 (by decide) (fun c7 => ?_) (fun c8 => ?_)
    · have hw := hw.1 c7
      refine lv_iconst (v := 0) hx hb dX10_isSet_29 (by decide) ?_
      exact x_iret (w1 := fun (u : (Nat → Int32) × (Nat → Int32)) => (wld_X10_isSet cI cJ cZ h_p0 ad_p0 p0_places p0_steps p0_pastFirst p0_past p0_goings p0_rowSize p0_ways p0_hasField p0_fieldSize p0_faultNow p0_hasTree p0_treeSize p0_weightCount p0_roundCount p0_setCount (u.1) (u.2) p0_puts p0_takes)) hx hb hr hlocks (y4, y5) hw hP hD hS dX10_isSet_30
    · have hw := hw.2 c8
      refine lv_iconst (v := 1) hx hb dX10_isSet_25 (by decide) ?_
      refine lv_goto (tgt := 30) hx hb dX10_isSet_26 (by decide) ?_
      exact x_iret (w1 := fun (u : (Nat → Int32) × (Nat → Int32)) => (wld_X10_isSet cI cJ cZ h_p0 ad_p0 p0_places p0_steps p0_pastFirst p0_past p0_goings p0_rowSize p0_ways p0_hasField p0_fieldSize p0_faultNow p0_hasTree p0_treeSize p0_weightCount p0_roundCount p0_setCount (u.1) (u.2) p0_puts p0_takes)) hx hb hr hlocks (y4, y5) hw hP hD hS dX10_isSet_30
  · have hw := hw.2 c3
    refine lv_ldc (v := -2000000001) hx hb hown (hts (.constant RX10 159 (-2000000001)) (by decide +kernel)) dX10_isSet_9 ?_
    exact x_iret (w1 := fun (u : (Nat → Int32) × (Nat → Int32)) => (wld_X10_isSet cI cJ cZ h_p0 ad_p0 p0_places p0_steps p0_pastFirst p0_past p0_goings p0_rowSize p0_ways p0_hasField p0_fieldSize p0_faultNow p0_hasTree p0_treeSize p0_weightCount p0_roundCount p0_setCount (u.1) (u.2) p0_puts p0_takes)) hx hb hr hlocks (p0_answers, p0_askers) hw hP hD hS dX10_isSet_11
abbrev wld_X10_greatest (cI cJ cZ : ClassId) (h_p0 : Nat) (ad_p0 : Nat → Nat) (p0_places : Int32) (p0_steps : Int32) (p0_pastFirst : Int32) (p0_past : Int32) (p0_goings : Int32) (p0_rowSize : Int32) (p0_ways : Int32) (p0_hasField : Int32) (p0_fieldSize : Int32) (p0_faultNow : Int32) (p0_hasTree : Int32) (p0_treeSize : Int32) (p0_weightCount : Int32) (p0_roundCount : Int32) (p0_setCount : Int32) (p0_answers : Nat → Int32) (p0_askers : Nat → Int32) (p0_puts : Nat → Int32) (p0_takes : Nat → Int32) : va_W := [(h_p0, .inr (10, [.int p0_places, .int p0_steps, .ref (ad_p0 2), .ref (ad_p0 3), .ref (ad_p0 4), .ref (ad_p0 5), .ref (ad_p0 6), .ref (ad_p0 7), .ref (ad_p0 8), .ref (ad_p0 9), .ref (ad_p0 10), .ref (ad_p0 11), .ref (ad_p0 12), .ref (ad_p0 13), .ref (ad_p0 14), .int p0_pastFirst, .int p0_past, .int p0_goings, .int p0_rowSize, .ref (ad_p0 19), .ref (ad_p0 20), .int p0_ways, .ref (ad_p0 22), .ref (ad_p0 23), .int p0_hasField, .int p0_fieldSize, .ref (ad_p0 26), .ref (ad_p0 27), .ref (ad_p0 28), .ref (ad_p0 29), .ref (ad_p0 30), .ref (ad_p0 31), .ref (ad_p0 32), .int p0_faultNow, .int p0_hasTree, .int p0_treeSize, .ref (ad_p0 36), .ref (ad_p0 37), .ref (ad_p0 38), .ref (ad_p0 39), .ref (ad_p0 40), .ref (ad_p0 41), .ref (ad_p0 42), .int p0_weightCount, .ref (ad_p0 44), .int p0_roundCount, .ref (ad_p0 46), .int p0_setCount, .ref (ad_p0 48), .ref (ad_p0 49)])), ((ad_p0 49), .inl (cI, 16, .inl p0_answers)), ((ad_p0 48), .inl (cI, 16, .inl p0_askers)), ((ad_p0 5), .inl (cI, 256, .inl p0_puts)), ((ad_p0 4), .inl (cI, 256, .inl p0_takes))]
abbrev q_X10_greatest (dC : Nat → ClassId) (dI : Nat → Nat → Nat) (cI cJ cZ : ClassId) (h_p0 : Nat) (ad_p0 : Nat → Nat) (p0_places : Int32) (p0_steps : Int32) (p0_pastFirst : Int32) (p0_past : Int32) (p0_goings : Int32) (p0_rowSize : Int32) (p0_ways : Int32) (p0_hasField : Int32) (p0_fieldSize : Int32) (p0_faultNow : Int32) (p0_hasTree : Int32) (p0_treeSize : Int32) (p0_weightCount : Int32) (p0_roundCount : Int32) (p0_setCount : Int32) (p0_answers : Nat → Int32) (p0_askers : Nat → Int32) (p0_puts : Nat → Int32) (p0_takes : Nat → Int32) (post : Int32 → (Nat → Int32) → (Nat → Int32) → Prop) (A : Nat → Prop) : Array Value → State → Outcome → State → Prop := va_Qi (fun r (u : (Nat → Int32) × (Nat → Int32)) => post r (u.1) (u.2)) (fun (u : (Nat → Int32) × (Nat → Int32)) t => xPost (dC, dI) A (wld_X10_greatest cI cJ cZ h_p0 ad_p0 p0_places p0_steps p0_pastFirst p0_past p0_goings p0_rowSize p0_ways p0_hasField p0_fieldSize p0_faultNow p0_hasTree p0_treeSize p0_weightCount p0_roundCount p0_setCount (u.1) (u.2) p0_puts p0_takes) t) A
def w_X10_greatest (p0_places : Int32) (p0_steps : Int32) (p0_answers : Nat → Int32) (p0_askers : Nat → Int32) (p0_puts : Nat → Int32) (p0_takes : Nat → Int32) (a1 : Int32) (a2 : Int32) (post : Int32 → (Nat → Int32) → (Nat → Int32) → Prop) : Prop :=
  w_X10_areBits p0_places a1 a2 (fun r1 =>
  (¬ r1 = 0 →
    w_X10_readSteps p0_places p0_steps p0_answers p0_askers p0_puts p0_takes a2 (fun y4 y5 =>
    w_X10_greatestIn p0_steps y4 y5 a1 (fun r6 =>
    (post r6 y4 y5)))) ∧
  (r1 = 0 →
    (post (-2000000001 : Int32) p0_answers p0_askers)))
set_option maxHeartbeats 4000000 in
set_option maxRecDepth 100000 in
theorem c_X10_greatest {l : Launch} {dC : Nat → ClassId} {dI : Nat → Nat → Nat} {sz : Nat} {cI cJ cZ : ClassId} {h_p0 : Nat} {ad_p0 : Nat → Nat} {p0_places : Int32} {p0_steps : Int32} {p0_pastFirst : Int32} {p0_past : Int32} {p0_goings : Int32} {p0_rowSize : Int32} {p0_ways : Int32} {p0_hasField : Int32} {p0_fieldSize : Int32} {p0_faultNow : Int32} {p0_hasTree : Int32} {p0_treeSize : Int32} {p0_weightCount : Int32} {p0_roundCount : Int32} {p0_setCount : Int32} {p0_answers : Nat → Int32} {p0_askers : Nat → Int32} {p0_puts : Nat → Int32} {p0_takes : Nat → Int32} {a1 : Int32} {a2 : Int32} {post : Int32 → (Nat → Int32) → (Nat → Int32) → Prop} (hw : w_X10_greatest p0_places p0_steps p0_answers p0_askers p0_puts p0_takes a1 a2 post) : Met l yX10_greatest wsX10_greatest ({ frames := 2, cells := 0, slots := 0, locals := 47 }) (va_Pc [.ref h_p0, .int a1, .int a2] (xPre (dC, dI) cI cJ cZ (wld_X10_greatest cI cJ cZ h_p0 ad_p0 p0_places p0_steps p0_pastFirst p0_past p0_goings p0_rowSize p0_ways p0_hasField p0_fieldSize p0_faultNow p0_hasTree p0_treeSize p0_weightCount p0_roundCount p0_setCount p0_answers p0_askers p0_puts p0_takes) sz)) (q_X10_greatest dC dI cI cJ cZ h_p0 ad_p0 p0_places p0_steps p0_pastFirst p0_past p0_goings p0_rowSize p0_ways p0_hasField p0_fieldSize p0_faultNow p0_hasTree p0_treeSize p0_weightCount p0_roundCount p0_setCount p0_answers p0_askers p0_puts p0_takes post (va_A (wld_X10_greatest cI cJ cZ h_p0 ad_p0 p0_places p0_steps p0_pastFirst p0_past p0_goings p0_rowSize p0_ways p0_hasField p0_fieldSize p0_faultNow p0_hasTree p0_treeSize p0_weightCount p0_roundCount p0_setCount p0_answers p0_askers p0_puts p0_takes) sz)) 0 0 (va_A (wld_X10_greatest cI cJ cZ h_p0 ad_p0 p0_places p0_steps p0_pastFirst p0_past p0_goings p0_rowSize p0_ways p0_hasField p0_fieldSize p0_faultNow p0_hasTree p0_treeSize p0_weightCount p0_roundCount p0_setCount p0_answers p0_askers p0_puts p0_takes) sz) := by
  refine x_met (cc := cX10_greatest) (maxL := 3) (ret := (some .int)) (own := RX10) (Qc := fun A => (q_X10_greatest dC dI cI cJ cZ h_p0 ad_p0 p0_places p0_steps p0_pastFirst p0_past p0_goings p0_rowSize p0_ways p0_hasField p0_fieldSize p0_faultNow p0_hasTree p0_treeSize p0_weightCount p0_roundCount p0_setCount p0_answers p0_askers p0_puts p0_takes post A)) (by decide) rfl rfl (Nat.le_of_ble_eq_true rfl) ?_
  intro p e s m args below meth c A ls E0 hP hD hS hl
  obtain ⟨hx, hb, hr, hml, hown, hts, hlocks, hK, hA, n1, n2⟩ := id E0
  have iX10 : ∀ w ∈ u_ws RX10 TX10 50, w ∈ wsX10_greatest := fun w h => List.mem_cons_of_mem _ (List.mem_append_right _ h)
  have hS0 := hS
  have hl : lv_has ls 3 [(0, .ref h_p0), (1, .int a1), (2, .int a2)] := hl
  unfold w_X10_greatest at hw
  obtain ⟨H, hH⟩ : ∃ H, H = s.heap := ⟨_, rfl⟩
  have hS : va_S A s.heap H [] := by rw [hH]; exact hS
  have hP : va_P (dC, dI) vwCl (wld_X10_greatest cI cJ cZ h_p0 ad_p0 p0_places p0_steps p0_pastFirst p0_past p0_goings p0_rowSize p0_ways p0_hasField p0_fieldSize p0_faultNow p0_hasTree p0_treeSize p0_weightCount p0_roundCount p0_setCount p0_answers p0_askers p0_puts p0_takes) H := by rw [hH]; exact hP
  suffices hG : W p l e ({ frames := 2, cells := 0, slots := 0, locals := 47 }) s m args below meth c H [] 0 0 (MQ below (q_X10_greatest dC dI cI cJ cZ h_p0 ad_p0 p0_places p0_steps p0_pastFirst p0_past p0_goings p0_rowSize p0_ways p0_hasField p0_fieldSize p0_faultNow p0_hasTree p0_treeSize p0_weightCount p0_roundCount p0_setCount p0_answers p0_askers p0_puts p0_takes post A) args s 0 0 A) (F0 m 0 ls []) by rw [hH] at hG; exact hG
  clear hH
  refine lv_aload_n hx hb dX10_greatest_0 rfl (lv_at hl 0 rfl) ?_
  refine lv_iload_n hx hb dX10_greatest_1 rfl (lv_at hl 1 rfl) ?_
  refine lv_iload_n hx hb dX10_greatest_2 rfl (lv_at hl 2 rfl) ?_
  obtain ⟨hPc, hDc⟩ := x_sub (wc := (wld_X10_areBits cI cJ cZ h_p0 ad_p0 p0_places p0_steps p0_pastFirst p0_past p0_goings p0_rowSize p0_ways p0_hasField p0_fieldSize p0_faultNow p0_hasTree p0_treeSize p0_weightCount p0_roundCount p0_setCount)) hP hD [0] (n := 5) rfl rfl (by decide +kernel)
  refine x_calli (ws' := fun (u : Unit) => (wld_X10_greatest cI cJ cZ h_p0 ad_p0 p0_places p0_steps p0_pastFirst p0_past p0_goings p0_rowSize p0_ways p0_hasField p0_fieldSize p0_faultNow p0_hasTree p0_treeSize p0_weightCount p0_roundCount p0_setCount p0_answers p0_askers p0_puts p0_takes)) hP hD hS hA [0] [1, 2, 3, 4] [4, 0, 1, 2, 3] (n := 5) (k := 1) rfl (fun _ => rfl) rfl (by decide +kernel) (fun _ => rfl) (va_runV (As := [.int a1, .int a2]) (rest := []) ⟨hx, hb, hml, hown, hts⟩ (c_X10_areBits (l := l) (dC := dC) (dI := dI) (cI := cI) (cJ := cJ) (cZ := cZ) (sz := H.size) (h_p0 := h_p0) (ad_p0 := ad_p0) (p0_places := p0_places) (p0_steps := p0_steps) (p0_pastFirst := p0_pastFirst) (p0_past := p0_past) (p0_goings := p0_goings) (p0_rowSize := p0_rowSize) (p0_ways := p0_ways) (p0_hasField := p0_hasField) (p0_fieldSize := p0_fieldSize) (p0_faultNow := p0_faultNow) (p0_hasTree := p0_hasTree) (p0_treeSize := p0_treeSize) (p0_weightCount := p0_weightCount) (p0_roundCount := p0_roundCount) (p0_setCount := p0_setCount) hw) (cwV 2 hts gX10_greatest_X10_areBits rfl rfl rfl (by decide +kernel) ⟨Nat.le_of_ble_eq_true rfl, Nat.le_of_ble_eq_true rfl⟩) ⟨xPre_blind, va_recv hK hP (ci := 10) (q0 := 0) rfl rfl, xPre_at hK hPc hDc n1 n2⟩ rfl rfl hl.1 rfl (lv_room (Nat.le_of_ble_eq_true rfl)) dX10_greatest_3 ⟨Nat.zero_le _, Nat.zero_le _⟩) (fun r1 u H locs hw hP hD hS => ?_)
  try dsimp only at hw
  have hP : va_P (dC, dI) vwCl (wld_X10_greatest cI cJ cZ h_p0 ad_p0 p0_places p0_steps p0_pastFirst p0_past p0_goings p0_rowSize p0_ways p0_hasField p0_fieldSize p0_faultNow p0_hasTree p0_treeSize p0_weightCount p0_roundCount p0_setCount p0_answers p0_askers p0_puts p0_takes) H := hP
  have hD : va_D A (wld_X10_greatest cI cJ cZ h_p0 ad_p0 p0_places p0_steps p0_pastFirst p0_past p0_goings p0_rowSize p0_ways p0_hasField p0_fieldSize p0_faultNow p0_hasTree p0_treeSize p0_weightCount p0_roundCount p0_setCount p0_answers p0_askers p0_puts p0_takes) := hD
  refine lv_if_ne (tgt := 12) hx hb dX10_greatest_6 (by decide) (fun c2 => ?_) (fun c3 => ?_)
  · have hw := hw.1 c2
    refine lv_aload_n hx hb dX10_greatest_12 rfl (lv_at hl 0 rfl) ?_
    refine lv_iload_n hx hb dX10_greatest_13 rfl (lv_at hl 2 rfl) ?_
    obtain ⟨hPc, hDc⟩ := x_sub (wc := (wld_X10_readSteps cI cJ cZ h_p0 ad_p0 p0_places p0_steps p0_pastFirst p0_past p0_goings p0_rowSize p0_ways p0_hasField p0_fieldSize p0_faultNow p0_hasTree p0_treeSize p0_weightCount p0_roundCount p0_setCount p0_answers p0_askers p0_puts p0_takes)) hP hD [0, 1, 2, 3, 4] (n := 5) rfl rfl (by decide +kernel)
    refine x_callv (ws' := fun (u : (Nat → Int32) × (Nat → Int32)) => (wld_X10_greatest cI cJ cZ h_p0 ad_p0 p0_places p0_steps p0_pastFirst p0_past p0_goings p0_rowSize p0_ways p0_hasField p0_fieldSize p0_faultNow p0_hasTree p0_treeSize p0_weightCount p0_roundCount p0_setCount (u.1) (u.2) p0_puts p0_takes)) hP hD hS hA [0, 1, 2, 3, 4] [] [0, 1, 2, 3, 4] (n := 5) (k := 5) rfl (fun _ => rfl) rfl (by decide +kernel) (fun _ => rfl) (va_runV (As := [.int a2]) (rest := []) ⟨hx, hb, hml, hown, hts⟩ (c_X10_readSteps (l := l) (dC := dC) (dI := dI) (cI := cI) (cJ := cJ) (cZ := cZ) (sz := H.size) (h_p0 := h_p0) (ad_p0 := ad_p0) (p0_places := p0_places) (p0_steps := p0_steps) (p0_pastFirst := p0_pastFirst) (p0_past := p0_past) (p0_goings := p0_goings) (p0_rowSize := p0_rowSize) (p0_ways := p0_ways) (p0_hasField := p0_hasField) (p0_fieldSize := p0_fieldSize) (p0_faultNow := p0_faultNow) (p0_hasTree := p0_hasTree) (p0_treeSize := p0_treeSize) (p0_weightCount := p0_weightCount) (p0_roundCount := p0_roundCount) (p0_setCount := p0_setCount) (p0_answers := p0_answers) (p0_askers := p0_askers) (p0_puts := p0_puts) (p0_takes := p0_takes) hw) (cwV 1 hts gX10_greatest_X10_readSteps rfl rfl rfl (by decide +kernel) ⟨Nat.le_of_ble_eq_true rfl, Nat.le_of_ble_eq_true rfl⟩) ⟨xPre_blind, va_recv hK hP (ci := 10) (q0 := 0) rfl rfl, xPre_at hK hPc hDc n1 n2⟩ rfl rfl hl.1 rfl (lv_room (Nat.le_of_ble_eq_true rfl)) dX10_greatest_14 ⟨Nat.zero_le _, Nat.zero_le _⟩) (fun u H locs hw hP hD hS => ?_)
    obtain ⟨y4, y5⟩ := u
    try dsimp only at hw
    have hP : va_P (dC, dI) vwCl (wld_X10_greatest cI cJ cZ h_p0 ad_p0 p0_places p0_steps p0_pastFirst p0_past p0_goings p0_rowSize p0_ways p0_hasField p0_fieldSize p0_faultNow p0_hasTree p0_treeSize p0_weightCount p0_roundCount p0_setCount y4 y5 p0_puts p0_takes) H := hP
    have hD : va_D A (wld_X10_greatest cI cJ cZ h_p0 ad_p0 p0_places p0_steps p0_pastFirst p0_past p0_goings p0_rowSize p0_ways p0_hasField p0_fieldSize p0_faultNow p0_hasTree p0_treeSize p0_weightCount p0_roundCount p0_setCount y4 y5 p0_puts p0_takes) := hD
    refine lv_aload_n hx hb dX10_greatest_17 rfl (lv_at hl 0 rfl) ?_
    refine lv_iload_n hx hb dX10_greatest_18 rfl (lv_at hl 1 rfl) ?_
    obtain ⟨hPc, hDc⟩ := x_sub (wc := (wld_X10_greatestIn cI cJ cZ h_p0 ad_p0 p0_places p0_steps p0_pastFirst p0_past p0_goings p0_rowSize p0_ways p0_hasField p0_fieldSize p0_faultNow p0_hasTree p0_treeSize p0_weightCount p0_roundCount p0_setCount y4 y5)) hP hD [0, 1, 2] (n := 5) rfl rfl (by decide +kernel)
    refine x_calli (ws' := fun (u : Unit) => (wld_X10_greatest cI cJ cZ h_p0 ad_p0 p0_places p0_steps p0_pastFirst p0_past p0_goings p0_rowSize p0_ways p0_hasField p0_fieldSize p0_faultNow p0_hasTree p0_treeSize p0_weightCount p0_roundCount p0_setCount y4 y5 p0_puts p0_takes)) hP hD hS hA [0, 1, 2] [3, 4] [2, 3, 4, 0, 1] (n := 5) (k := 3) rfl (fun _ => rfl) rfl (by decide +kernel) (fun _ => rfl) (va_runV (As := [.int a1]) (rest := []) ⟨hx, hb, hml, hown, hts⟩ (c_X10_greatestIn (l := l) (dC := dC) (dI := dI) (cI := cI) (cJ := cJ) (cZ := cZ) (sz := H.size) (h_p0 := h_p0) (ad_p0 := ad_p0) (p0_places := p0_places) (p0_steps := p0_steps) (p0_pastFirst := p0_pastFirst) (p0_past := p0_past) (p0_goings := p0_goings) (p0_rowSize := p0_rowSize) (p0_ways := p0_ways) (p0_hasField := p0_hasField) (p0_fieldSize := p0_fieldSize) (p0_faultNow := p0_faultNow) (p0_hasTree := p0_hasTree) (p0_treeSize := p0_treeSize) (p0_weightCount := p0_weightCount) (p0_roundCount := p0_roundCount) (p0_setCount := p0_setCount) (p0_answers := y4) (p0_askers := y5) hw) (cwV 1 hts gX10_greatest_X10_greatestIn rfl rfl rfl (by decide +kernel) ⟨Nat.le_of_ble_eq_true rfl, Nat.le_of_ble_eq_true rfl⟩) ⟨xPre_blind, va_recv hK hP (ci := 10) (q0 := 0) rfl rfl, xPre_at hK hPc hDc n1 n2⟩ rfl rfl hl.1 rfl (lv_room (Nat.le_of_ble_eq_true rfl)) dX10_greatest_19 ⟨Nat.zero_le _, Nat.zero_le _⟩) (fun r6 u H locs hw hP hD hS => ?_)
    try dsimp only at hw
    have hP : va_P (dC, dI) vwCl (wld_X10_greatest cI cJ cZ h_p0 ad_p0 p0_places p0_steps p0_pastFirst p0_past p0_goings p0_rowSize p0_ways p0_hasField p0_fieldSize p0_faultNow p0_hasTree p0_treeSize p0_weightCount p0_roundCount p0_setCount y4 y5 p0_puts p0_takes) H := hP
    have hD : va_D A (wld_X10_greatest cI cJ cZ h_p0 ad_p0 p0_places p0_steps p0_pastFirst p0_past p0_goings p0_rowSize p0_ways p0_hasField p0_fieldSize p0_faultNow p0_hasTree p0_treeSize p0_weightCount p0_roundCount p0_setCount y4 y5 p0_puts p0_takes) := hD
    exact x_iret (w1 := fun (u : (Nat → Int32) × (Nat → Int32)) => (wld_X10_greatest cI cJ cZ h_p0 ad_p0 p0_places p0_steps p0_pastFirst p0_past p0_goings p0_rowSize p0_ways p0_hasField p0_fieldSize p0_faultNow p0_hasTree p0_treeSize p0_weightCount p0_roundCount p0_setCount (u.1) (u.2) p0_puts p0_takes)) hx hb hr hlocks (y4, y5) hw hP hD hS dX10_greatest_22
  · have hw := hw.2 c3
    refine lv_ldc (v := -2000000001) hx hb hown (hts (.constant RX10 159 (-2000000001)) (by decide +kernel)) dX10_greatest_9 ?_
    exact x_iret (w1 := fun (u : (Nat → Int32) × (Nat → Int32)) => (wld_X10_greatest cI cJ cZ h_p0 ad_p0 p0_places p0_steps p0_pastFirst p0_past p0_goings p0_rowSize p0_ways p0_hasField p0_fieldSize p0_faultNow p0_hasTree p0_treeSize p0_weightCount p0_roundCount p0_setCount (u.1) (u.2) p0_puts p0_takes)) hx hb hr hlocks (p0_answers, p0_askers) hw hP hD hS dX10_greatest_11
abbrev wld_X10_manyBits (cI cJ cZ : ClassId) (h_p0 : Nat) : va_W := []
abbrev q_X10_manyBits (dC : Nat → ClassId) (dI : Nat → Nat → Nat) (cI cJ cZ : ClassId) (h_p0 : Nat) (post : Int32 → Prop) (A : Nat → Prop) : Array Value → State → Outcome → State → Prop := va_Qi (fun r (u : Unit) => post r ) (fun (u : Unit) t => xPost (dC, dI) A (wld_X10_manyBits cI cJ cZ h_p0) t) A
def w_X10_manyBits_L4b (v1 : Int32) (post : Int32 → Prop) (K : (Int32) → (Int32) → Prop) (rec : (Int32) → (Int32) → Prop) (v2 : Int32) (v3 : Int32) : Prop :=
    ((16 : Int32) ≤ v3 →
      K v2 v3) ∧
    (¬ (16 : Int32) ≤ v3 →
      ∀ x3 : Int32, x3 = (v2 + ((v1 >>> (v3 &&& 31)) &&& (1 : Int32))) →
      ∀ x4 : Int32, x4 = v3 + (1 : Int32) →
      rec x3 x4)
def w_X10_manyBits_L4 (v1 : Int32) (post : Int32 → Prop) (K : (Int32) → (Int32) → Prop) : Nat → (Int32) → (Int32) → Prop
  | 0, _, _ => False
  | n + 1, v2, v3 => w_X10_manyBits_L4b v1 post K (w_X10_manyBits_L4 v1 post K n) v2 v3
def w_X10_manyBits (a1 : Int32) (post : Int32 → Prop) : Prop :=
  ∃ n : Nat, w_X10_manyBits_L4 a1 post (fun v6 v7 =>
      (post v6)) n (0 : Int32) (0 : Int32)
set_option maxHeartbeats 4000000 in
set_option maxRecDepth 100000 in
theorem c_X10_manyBits_L4 {p : Program} {l : Launch} {e : Env} {s : State} {m : MethodId} {args : Array Value} {below : List Frame} {meth : Method} {c : Code} {dC : Nat → ClassId} {dI : Nat → Nat → Nat} {A : Nat → Prop} {cI cJ cZ : ClassId} {h_p0 : Nat} {v1 : Int32}  {post : Int32 → Prop} {K : (Int32) → (Int32) → Prop} (E0 : xEnv p s m args meth c cX10_manyBits (some .int) 4 RX10 wsX10_manyBits (dC, dI) cI cJ cZ A) (hk : ∀ (v2 : Int32) (v3 : Int32) (H : Heap) (locs : List Loc) (ls : Array Slot), K v2 v3 → va_P (dC, dI) vwCl (wld_X10_manyBits cI cJ cZ h_p0) H → va_D A (wld_X10_manyBits cI cJ cZ h_p0) → va_S A s.heap H locs → lv_has ls 4 [(2, .int v2)] → W p l e ({ frames := 0, cells := 0, slots := 0, locals := 0 }) s m args below meth c H locs 0 0 (MQ below (q_X10_manyBits dC dI cI cJ cZ h_p0 post A) args s 0 0 A) (F0 m 24 ls [])) : ∀ (n : Nat) (v2 : Int32) (v3 : Int32), w_X10_manyBits_L4 v1 post K n v2 v3 → ∀ (H : Heap) (locs : List Loc) (ls : Array Slot), va_P (dC, dI) vwCl (wld_X10_manyBits cI cJ cZ h_p0) H → va_D A (wld_X10_manyBits cI cJ cZ h_p0) → va_S A s.heap H locs → lv_has ls 4 [(1, .int v1), (2, .int v2), (3, .int v3)] → W p l e ({ frames := 0, cells := 0, slots := 0, locals := 0 }) s m args below meth c H locs 0 0 (MQ below (q_X10_manyBits dC dI cI cJ cZ h_p0 post A) args s 0 0 A) (F0 m 4 ls []) := by
  obtain ⟨hx, hb, hr, hml, hown, hts, hlocks, hK, hA, n1, n2⟩ := id E0
  intro n
  induction n with
  | zero => intro v2 v3 hw; exact hw.elim
  | succ n ih =>
    intro v2 v3 hw H locs ls hP hD hS hl
    have hw : w_X10_manyBits_L4b v1 post K (w_X10_manyBits_L4 v1 post K n) v2 v3 := hw
    unfold w_X10_manyBits_L4b at hw
    refine lv_iload_n hx hb dX10_manyBits_4 rfl (lv_at hl 2 rfl) ?_
    refine lv_bipush (v := 16) hx hb dX10_manyBits_5 (by decide) ?_
    refine lv_icmp_ge (tgt := 24) hx hb dX10_manyBits_7 (by decide) (fun c1 => ?_) (fun c2 => ?_)
    · have hw := hw.1 c1
      exact hk _ _ _ _ _ hw hP hD hS (lv_sub hl [1] rfl)
    · have hw := hw.2 c2
      refine lv_iload_n hx hb dX10_manyBits_10 rfl (lv_at hl 1 rfl) ?_
      refine lv_iload_n hx hb dX10_manyBits_11 rfl (lv_at hl 0 rfl) ?_
      refine lv_iload_n hx hb dX10_manyBits_12 rfl (lv_at hl 2 rfl) ?_
      refine lv_ishr hx hb dX10_manyBits_13 ?_
      refine lv_iconst (v := 1) hx hb dX10_manyBits_14 (by decide) ?_
      refine lv_iand hx hb dX10_manyBits_15 ?_
      refine lv_iadd hx hb dX10_manyBits_16 ?_
      refine lv_topi (fun x3 ex3 => ?_)
      have hw := hw x3 ex3
      refine lv_istore_n (lv' := [(2, .int x3), (1, .int v1), (3, .int v3)]) hx hb dX10_manyBits_17 rfl hl (by decide) rfl (fun ls hl => ?_)
      obtain ⟨x4, ex4⟩ : ∃ y : Int32, y = v3 + (1 : Int32) := ⟨_, rfl⟩
      have hw := hw x4 ex4
      refine lv_iinc (v := x4) (lv' := [(3, .int x4), (2, .int x3), (1, .int v1)]) hx hb dX10_manyBits_18 hl (k := 2) rfl (by rw [ex4]; rfl) (by decide) rfl (fun ls hl => ?_)
      refine lv_goto (tgt := 4) hx hb dX10_manyBits_21 (by decide) ?_
      exact ih _ _ hw _ _ _ hP hD hS (lv_sub hl [2, 1, 0] rfl)
set_option maxHeartbeats 4000000 in
set_option maxRecDepth 100000 in
theorem c_X10_manyBits {l : Launch} {dC : Nat → ClassId} {dI : Nat → Nat → Nat} {sz : Nat} {cI cJ cZ : ClassId} {h_p0 : Nat} {a1 : Int32} {post : Int32 → Prop} (hw : w_X10_manyBits a1 post) : Met l yX10_manyBits wsX10_manyBits ({ frames := 0, cells := 0, slots := 0, locals := 0 }) (va_Pc [.ref h_p0, .int a1] (xPre (dC, dI) cI cJ cZ (wld_X10_manyBits cI cJ cZ h_p0) sz)) (q_X10_manyBits dC dI cI cJ cZ h_p0 post (va_A (wld_X10_manyBits cI cJ cZ h_p0) sz)) 0 0 (va_A (wld_X10_manyBits cI cJ cZ h_p0) sz) := by
  refine x_met (cc := cX10_manyBits) (maxL := 4) (ret := (some .int)) (own := RX10) (Qc := fun A => (q_X10_manyBits dC dI cI cJ cZ h_p0 post A)) (by decide) rfl rfl (Nat.le_of_ble_eq_true rfl) ?_
  intro p e s m args below meth c A ls E0 hP hD hS hl
  obtain ⟨hx, hb, hr, hml, hown, hts, hlocks, hK, hA, n1, n2⟩ := id E0
  have hS0 := hS
  have hl : lv_has ls 4 [(0, .ref h_p0), (1, .int a1)] := hl
  unfold w_X10_manyBits at hw
  obtain ⟨H, hH⟩ : ∃ H, H = s.heap := ⟨_, rfl⟩
  have hS : va_S A s.heap H [] := by rw [hH]; exact hS
  have hP : va_P (dC, dI) vwCl (wld_X10_manyBits cI cJ cZ h_p0) H := by rw [hH]; exact hP
  suffices hG : W p l e ({ frames := 0, cells := 0, slots := 0, locals := 0 }) s m args below meth c H [] 0 0 (MQ below (q_X10_manyBits dC dI cI cJ cZ h_p0 post A) args s 0 0 A) (F0 m 0 ls []) by rw [hH] at hG; exact hG
  clear hH
  refine lv_iconst (v := 0) hx hb dX10_manyBits_0 (by decide) ?_
  refine lv_istore_n (lv' := [(2, .int (0 : Int32)), (0, .ref h_p0), (1, .int a1)]) hx hb dX10_manyBits_1 rfl hl (by decide) rfl (fun ls hl => ?_)
  refine lv_iconst (v := 0) hx hb dX10_manyBits_2 (by decide) ?_
  refine lv_istore_n (lv' := [(3, .int (0 : Int32)), (2, .int (0 : Int32)), (0, .ref h_p0), (1, .int a1)]) hx hb dX10_manyBits_3 rfl hl (by decide) rfl (fun ls hl => ?_)
  obtain ⟨n5, hw⟩ := hw
  refine c_X10_manyBits_L4 (l := l)  E0 ?_ n5 _ _ hw _ _ _ hP hD hS (lv_sub hl [3, 1, 0] rfl)
  · intro v6 v7 H locs ls hw hP hD hS hl
    have hP : va_P (dC, dI) vwCl (wld_X10_manyBits cI cJ cZ h_p0) H := hP
    have hD : va_D A (wld_X10_manyBits cI cJ cZ h_p0) := hD
    refine lv_iload_n hx hb dX10_manyBits_24 rfl (lv_at hl 0 rfl) ?_
    exact x_iret (w1 := fun (u : Unit) => (wld_X10_manyBits cI cJ cZ h_p0)) hx hb hr hlocks () hw hP hD hS dX10_manyBits_25
abbrev wld_X10_isSimple (cI cJ cZ : ClassId) (h_p0 : Nat) (ad_p0 : Nat → Nat) (p0_places : Int32) (p0_steps : Int32) (p0_pastFirst : Int32) (p0_past : Int32) (p0_goings : Int32) (p0_rowSize : Int32) (p0_ways : Int32) (p0_hasField : Int32) (p0_fieldSize : Int32) (p0_faultNow : Int32) (p0_hasTree : Int32) (p0_treeSize : Int32) (p0_weightCount : Int32) (p0_roundCount : Int32) (p0_setCount : Int32) (p0_colour : Nat → Int32) (p0_puts : Nat → Int32) (p0_sort : Nat → Int32) (p0_takes : Nat → Int32) : va_W := [(h_p0, .inr (10, [.int p0_places, .int p0_steps, .ref (ad_p0 2), .ref (ad_p0 3), .ref (ad_p0 4), .ref (ad_p0 5), .ref (ad_p0 6), .ref (ad_p0 7), .ref (ad_p0 8), .ref (ad_p0 9), .ref (ad_p0 10), .ref (ad_p0 11), .ref (ad_p0 12), .ref (ad_p0 13), .ref (ad_p0 14), .int p0_pastFirst, .int p0_past, .int p0_goings, .int p0_rowSize, .ref (ad_p0 19), .ref (ad_p0 20), .int p0_ways, .ref (ad_p0 22), .ref (ad_p0 23), .int p0_hasField, .int p0_fieldSize, .ref (ad_p0 26), .ref (ad_p0 27), .ref (ad_p0 28), .ref (ad_p0 29), .ref (ad_p0 30), .ref (ad_p0 31), .ref (ad_p0 32), .int p0_faultNow, .int p0_hasTree, .int p0_treeSize, .ref (ad_p0 36), .ref (ad_p0 37), .ref (ad_p0 38), .ref (ad_p0 39), .ref (ad_p0 40), .ref (ad_p0 41), .ref (ad_p0 42), .int p0_weightCount, .ref (ad_p0 44), .int p0_roundCount, .ref (ad_p0 46), .int p0_setCount, .ref (ad_p0 48), .ref (ad_p0 49)])), ((ad_p0 2), .inl (cI, 16, .inl p0_colour)), ((ad_p0 5), .inl (cI, 256, .inl p0_puts)), ((ad_p0 3), .inl (cI, 16, .inl p0_sort)), ((ad_p0 4), .inl (cI, 256, .inl p0_takes))]
abbrev q_X10_isSimple (dC : Nat → ClassId) (dI : Nat → Nat → Nat) (cI cJ cZ : ClassId) (h_p0 : Nat) (ad_p0 : Nat → Nat) (p0_places : Int32) (p0_steps : Int32) (p0_pastFirst : Int32) (p0_past : Int32) (p0_goings : Int32) (p0_rowSize : Int32) (p0_ways : Int32) (p0_hasField : Int32) (p0_fieldSize : Int32) (p0_faultNow : Int32) (p0_hasTree : Int32) (p0_treeSize : Int32) (p0_weightCount : Int32) (p0_roundCount : Int32) (p0_setCount : Int32) (p0_colour : Nat → Int32) (p0_puts : Nat → Int32) (p0_sort : Nat → Int32) (p0_takes : Nat → Int32) (post : Int32 → Prop) (A : Nat → Prop) : Array Value → State → Outcome → State → Prop := va_Qi (fun r (u : Unit) => post r ) (fun (u : Unit) t => xPost (dC, dI) A (wld_X10_isSimple cI cJ cZ h_p0 ad_p0 p0_places p0_steps p0_pastFirst p0_past p0_goings p0_rowSize p0_ways p0_hasField p0_fieldSize p0_faultNow p0_hasTree p0_treeSize p0_weightCount p0_roundCount p0_setCount p0_colour p0_puts p0_sort p0_takes) t) A
def w_X10_isSimple_L44b (v2 : Int32) (p0_places : Int32) (p0_steps : Int32) (p0_colour : Nat → Int32) (p0_puts : Nat → Int32) (p0_sort : Nat → Int32) (p0_takes : Nat → Int32) (post : Int32 → Prop) (K : (Int32) → (Int32) → Prop) (rec : (Int32) → (Int32) → Prop) (v1 : Int32) (v3 : Int32) : Prop :=
    (p0_places ≤ v3 →
      K v1 v3) ∧
    (¬ p0_places ≤ v3 →
      (v1 = 0 →
        ∀ x12 : Int32, x12 = v3 + (1 : Int32) →
        rec (0 : Int32) x12) ∧
      (¬ v1 = 0 →
        vp_in (((16 : Int32) * v2) + v3) 256 ∧
        ((1 : Int32) < (p0_takes (((16 : Int32) * v2) + v3).toNatClampNeg) →
          ∀ x15 : Int32, x15 = v3 + (1 : Int32) →
          rec (0 : Int32) x15) ∧
        (¬ (1 : Int32) < (p0_takes (((16 : Int32) * v2) + v3).toNatClampNeg) →
          vp_in (((16 : Int32) * v2) + v3) 256 ∧
          ((1 : Int32) < (p0_puts (((16 : Int32) * v2) + v3).toNatClampNeg) →
            ∀ x18 : Int32, x18 = v3 + (1 : Int32) →
            rec (0 : Int32) x18) ∧
          (¬ (1 : Int32) < (p0_puts (((16 : Int32) * v2) + v3).toNatClampNeg) →
            ∀ x19 : Int32, x19 = v3 + (1 : Int32) →
            rec (1 : Int32) x19))))
def w_X10_isSimple_L44 (v2 : Int32) (p0_places : Int32) (p0_steps : Int32) (p0_colour : Nat → Int32) (p0_puts : Nat → Int32) (p0_sort : Nat → Int32) (p0_takes : Nat → Int32) (post : Int32 → Prop) (K : (Int32) → (Int32) → Prop) : Nat → (Int32) → (Int32) → Prop
  | 0, _, _ => False
  | n + 1, v1, v3 => w_X10_isSimple_L44b v2 p0_places p0_steps p0_colour p0_puts p0_sort p0_takes post K (w_X10_isSimple_L44 v2 p0_places p0_steps p0_colour p0_puts p0_sort p0_takes post K n) v1 v3
def w_X10_isSimple_L15b (p0_places : Int32) (p0_steps : Int32) (p0_colour : Nat → Int32) (p0_puts : Nat → Int32) (p0_sort : Nat → Int32) (p0_takes : Nat → Int32) (post : Int32 → Prop) (K : (Int32) → (Int32) → Prop) (rec : (Int32) → (Int32) → Prop) (v1 : Int32) (v2 : Int32) : Prop :=
    (p0_steps ≤ v2 →
      K v1 v2) ∧
    (¬ p0_steps ≤ v2 →
      (v1 = 0 →
        ∃ n : Nat, w_X10_isSimple_L44 v2 p0_places p0_steps p0_colour p0_puts p0_sort p0_takes post (fun v21 v22 =>
            ∀ x23 : Int32, x23 = v2 + (1 : Int32) →
            rec v21 x23) n (0 : Int32) (0 : Int32)) ∧
      (¬ v1 = 0 →
        vp_in v2 16 ∧
        (¬ (p0_sort v2.toNatClampNeg) = 0 →
          ∃ n : Nat, w_X10_isSimple_L44 v2 p0_places p0_steps p0_colour p0_puts p0_sort p0_takes post (fun v27 v28 =>
              ∀ x29 : Int32, x29 = v2 + (1 : Int32) →
              rec v27 x29) n (0 : Int32) (0 : Int32)) ∧
        ((p0_sort v2.toNatClampNeg) = 0 →
          ∃ n : Nat, w_X10_isSimple_L44 v2 p0_places p0_steps p0_colour p0_puts p0_sort p0_takes post (fun v31 v32 =>
              ∀ x33 : Int32, x33 = v2 + (1 : Int32) →
              rec v31 x33) n (1 : Int32) (0 : Int32))))
def w_X10_isSimple_L15 (p0_places : Int32) (p0_steps : Int32) (p0_colour : Nat → Int32) (p0_puts : Nat → Int32) (p0_sort : Nat → Int32) (p0_takes : Nat → Int32) (post : Int32 → Prop) (K : (Int32) → (Int32) → Prop) : Nat → (Int32) → (Int32) → Prop
  | 0, _, _ => False
  | n + 1, v1, v2 => w_X10_isSimple_L15b p0_places p0_steps p0_colour p0_puts p0_sort p0_takes post K (w_X10_isSimple_L15 p0_places p0_steps p0_colour p0_puts p0_sort p0_takes post K n) v1 v2
def w_X10_isSimple (p0_places : Int32) (p0_steps : Int32) (p0_colour : Nat → Int32) (p0_puts : Nat → Int32) (p0_sort : Nat → Int32) (p0_takes : Nat → Int32) (post : Int32 → Prop) : Prop :=
  w_X10_hasColour p0_places p0_colour (fun r1 =>
  (¬ r1 = 0 →
    ∃ n : Nat, w_X10_isSimple_L15 p0_places p0_steps p0_colour p0_puts p0_sort p0_takes post (fun v35 v36 =>
        v35 &&& 1 = v35 ∧
        (post v35)) n (0 : Int32) (0 : Int32)) ∧
  (r1 = 0 →
    ∃ n : Nat, w_X10_isSimple_L15 p0_places p0_steps p0_colour p0_puts p0_sort p0_takes post (fun v38 v39 =>
        v38 &&& 1 = v38 ∧
        (post v38)) n (1 : Int32) (0 : Int32)))
set_option maxHeartbeats 4000000 in
set_option maxRecDepth 100000 in
theorem c_X10_isSimple_L44 {p : Program} {l : Launch} {e : Env} {s : State} {m : MethodId} {args : Array Value} {below : List Frame} {meth : Method} {c : Code} {dC : Nat → ClassId} {dI : Nat → Nat → Nat} {A : Nat → Prop} {cI cJ cZ : ClassId} {h_p0 : Nat} {ad_p0 : Nat → Nat} {p0_places : Int32} {p0_steps : Int32} {p0_pastFirst : Int32} {p0_past : Int32} {p0_goings : Int32} {p0_rowSize : Int32} {p0_ways : Int32} {p0_hasField : Int32} {p0_fieldSize : Int32} {p0_faultNow : Int32} {p0_hasTree : Int32} {p0_treeSize : Int32} {p0_weightCount : Int32} {p0_roundCount : Int32} {p0_setCount : Int32} {p0_colour : Nat → Int32} {p0_puts : Nat → Int32} {p0_sort : Nat → Int32} {p0_takes : Nat → Int32} {v2 : Int32}  {post : Int32 → Prop} {K : (Int32) → (Int32) → Prop} (E0 : xEnv p s m args meth c cX10_isSimple (some .boolean) 4 RX10 wsX10_isSimple (dC, dI) cI cJ cZ A) (hk : ∀ (v1 : Int32) (v3 : Int32) (H : Heap) (locs : List Loc) (ls : Array Slot), K v1 v3 → va_P (dC, dI) vwCl (wld_X10_isSimple cI cJ cZ h_p0 ad_p0 p0_places p0_steps p0_pastFirst p0_past p0_goings p0_rowSize p0_ways p0_hasField p0_fieldSize p0_faultNow p0_hasTree p0_treeSize p0_weightCount p0_roundCount p0_setCount p0_colour p0_puts p0_sort p0_takes) H → va_D A (wld_X10_isSimple cI cJ cZ h_p0 ad_p0 p0_places p0_steps p0_pastFirst p0_past p0_goings p0_rowSize p0_ways p0_hasField p0_fieldSize p0_faultNow p0_hasTree p0_treeSize p0_weightCount p0_roundCount p0_setCount p0_colour p0_puts p0_sort p0_takes) → va_S A s.heap H locs → lv_has ls 4 [(0, .ref h_p0), (1, .int v1), (2, .int v2)] → W p l e ({ frames := 1, cells := 0, slots := 0, locals := 22 }) s m args below meth c H locs 0 0 (MQ below (q_X10_isSimple dC dI cI cJ cZ h_p0 ad_p0 p0_places p0_steps p0_pastFirst p0_past p0_goings p0_rowSize p0_ways p0_hasField p0_fieldSize p0_faultNow p0_hasTree p0_treeSize p0_weightCount p0_roundCount p0_setCount p0_colour p0_puts p0_sort p0_takes post A) args s 0 0 A) (F0 m 98 ls [])) : ∀ (n : Nat) (v1 : Int32) (v3 : Int32), w_X10_isSimple_L44 v2 p0_places p0_steps p0_colour p0_puts p0_sort p0_takes post K n v1 v3 → ∀ (H : Heap) (locs : List Loc) (ls : Array Slot), va_P (dC, dI) vwCl (wld_X10_isSimple cI cJ cZ h_p0 ad_p0 p0_places p0_steps p0_pastFirst p0_past p0_goings p0_rowSize p0_ways p0_hasField p0_fieldSize p0_faultNow p0_hasTree p0_treeSize p0_weightCount p0_roundCount p0_setCount p0_colour p0_puts p0_sort p0_takes) H → va_D A (wld_X10_isSimple cI cJ cZ h_p0 ad_p0 p0_places p0_steps p0_pastFirst p0_past p0_goings p0_rowSize p0_ways p0_hasField p0_fieldSize p0_faultNow p0_hasTree p0_treeSize p0_weightCount p0_roundCount p0_setCount p0_colour p0_puts p0_sort p0_takes) → va_S A s.heap H locs → lv_has ls 4 [(0, .ref h_p0), (1, .int v1), (2, .int v2), (3, .int v3)] → W p l e ({ frames := 1, cells := 0, slots := 0, locals := 22 }) s m args below meth c H locs 0 0 (MQ below (q_X10_isSimple dC dI cI cJ cZ h_p0 ad_p0 p0_places p0_steps p0_pastFirst p0_past p0_goings p0_rowSize p0_ways p0_hasField p0_fieldSize p0_faultNow p0_hasTree p0_treeSize p0_weightCount p0_roundCount p0_setCount p0_colour p0_puts p0_sort p0_takes post A) args s 0 0 A) (F0 m 44 ls []) := by
  obtain ⟨hx, hb, hr, hml, hown, hts, hlocks, hK, hA, n1, n2⟩ := id E0
  have iX10 : ∀ w ∈ u_ws RX10 TX10 50, w ∈ wsX10_isSimple := fun w h => List.mem_cons_of_mem _ (List.mem_append_right _ h)
  intro n
  induction n with
  | zero => intro v1 v3 hw; exact hw.elim
  | succ n ih =>
    intro v1 v3 hw H locs ls hP hD hS hl
    have hw : w_X10_isSimple_L44b v2 p0_places p0_steps p0_colour p0_puts p0_sort p0_takes post K (w_X10_isSimple_L44 v2 p0_places p0_steps p0_colour p0_puts p0_sort p0_takes post K n) v1 v3 := hw
    unfold w_X10_isSimple_L44b at hw
    refine lv_iload_n hx hb dX10_isSimple_44 rfl (lv_at hl 3 rfl) ?_
    refine lv_aload_n hx hb dX10_isSimple_45 rfl (lv_at hl 0 rfl) ?_
    refine va_get (D := (dC, dI)) (ci := 10) (v := .int p0_places) (C := RX10) (T := TX10) (N := 50) hx hb hts iX10 hown hK hP 0 rfl rfl 0 (by decide) (hts (.fieldLink RX10 127 "NetHouseModel" "places" "I") (by decide +kernel)) (fun _ h9 => h9) rfl dX10_isSimple_46 ?_
    refine lv_icmp_ge (tgt := 98) hx hb dX10_isSimple_49 (by decide) (fun c8 => ?_) (fun c9 => ?_)
    · have hw := hw.1 c8
      exact hk _ _ _ _ _ hw hP hD hS (lv_sub hl [0, 1, 2] rfl)
    · have hw := hw.2 c9
      refine lv_iload_n hx hb dX10_isSimple_52 rfl (lv_at hl 1 rfl) ?_
      refine lv_if_eq (tgt := 90) hx hb dX10_isSimple_53 (by decide) (fun c10 => ?_) (fun c11 => ?_)
      · have hw := hw.1 c10
        refine lv_iconst (v := 0) hx hb dX10_isSimple_90 (by decide) ?_
        refine lv_istore_n (lv' := [(1, .int (0 : Int32)), (0, .ref h_p0), (2, .int v2), (3, .int v3)]) hx hb dX10_isSimple_91 rfl hl (by decide) rfl (fun ls hl => ?_)
        obtain ⟨x12, ex12⟩ : ∃ y : Int32, y = v3 + (1 : Int32) := ⟨_, rfl⟩
        have hw := hw x12 ex12
        refine lv_iinc (v := x12) (lv' := [(3, .int x12), (1, .int (0 : Int32)), (0, .ref h_p0), (2, .int v2)]) hx hb dX10_isSimple_92 hl (k := 3) rfl (by rw [ex12]; rfl) (by decide) rfl (fun ls hl => ?_)
        refine lv_goto (tgt := 44) hx hb dX10_isSimple_95 (by decide) ?_
        exact ih _ _ hw _ _ _ hP hD hS (lv_sub hl [2, 1, 3, 0] rfl)
      · have hw := hw.2 c11
        refine lv_aload_n hx hb dX10_isSimple_56 rfl (lv_at hl 0 rfl) ?_
        refine va_get (D := (dC, dI)) (ci := 10) (v := .ref (ad_p0 4)) (C := RX10) (T := TX10) (N := 50) hx hb hts iX10 hown hK hP 0 rfl rfl 4 (by decide) (hts (.fieldLink RX10 16 "NetHouseModel" "takes" "[I") (by decide +kernel)) (fun _ h9 => h9) rfl dX10_isSimple_57 ?_
        refine lv_bipush (v := 16) hx hb dX10_isSimple_60 (by decide) ?_
        refine lv_iload_n hx hb dX10_isSimple_62 rfl (lv_at hl 2 rfl) ?_
        refine lv_imul hx hb dX10_isSimple_63 ?_
        refine lv_iload_n hx hb dX10_isSimple_64 rfl (lv_at hl 3 rfl) ?_
        refine lv_iadd hx hb dX10_isSimple_65 ?_
        refine va_iald hx hb hK hP 4 0 rfl rfl hw.1 dX10_isSimple_66 ?_
        have hw := hw.2
        refine lv_iconst (v := 1) hx hb dX10_isSimple_67 (by decide) ?_
        refine lv_icmp_gt (tgt := 90) hx hb dX10_isSimple_68 (by decide) (fun c13 => ?_) (fun c14 => ?_)
        · have hw := hw.1 c13
          refine lv_iconst (v := 0) hx hb dX10_isSimple_90 (by decide) ?_
          refine lv_istore_n (lv' := [(1, .int (0 : Int32)), (0, .ref h_p0), (2, .int v2), (3, .int v3)]) hx hb dX10_isSimple_91 rfl hl (by decide) rfl (fun ls hl => ?_)
          obtain ⟨x15, ex15⟩ : ∃ y : Int32, y = v3 + (1 : Int32) := ⟨_, rfl⟩
          have hw := hw x15 ex15
          refine lv_iinc (v := x15) (lv' := [(3, .int x15), (1, .int (0 : Int32)), (0, .ref h_p0), (2, .int v2)]) hx hb dX10_isSimple_92 hl (k := 3) rfl (by rw [ex15]; rfl) (by decide) rfl (fun ls hl => ?_)
          refine lv_goto (tgt := 44) hx hb dX10_isSimple_95 (by decide) ?_
          exact ih _ _ hw _ _ _ hP hD hS (lv_sub hl [2, 1, 3, 0] rfl)
        · have hw := hw.2 c14
          refine lv_aload_n hx hb dX10_isSimple_71 rfl (lv_at hl 0 rfl) ?_
          refine va_get (D := (dC, dI)) (ci := 10) (v := .ref (ad_p0 5)) (C := RX10) (T := TX10) (N := 50) hx hb hts iX10 hown hK hP 0 rfl rfl 5 (by decide) (hts (.fieldLink RX10 19 "NetHouseModel" "puts" "[I") (by decide +kernel)) (fun _ h9 => h9) rfl dX10_isSimple_72 ?_
          refine lv_bipush (v := 16) hx hb dX10_isSimple_75 (by decide) ?_
          refine lv_iload_n hx hb dX10_isSimple_77 rfl (lv_at hl 2 rfl) ?_
          refine lv_imul hx hb dX10_isSimple_78 ?_
          refine lv_iload_n hx hb dX10_isSimple_79 rfl (lv_at hl 3 rfl) ?_
          refine lv_iadd hx hb dX10_isSimple_80 ?_
          refine va_iald hx hb hK hP 2 0 rfl rfl hw.1 dX10_isSimple_81 ?_
          have hw := hw.2
          refine lv_iconst (v := 1) hx hb dX10_isSimple_82 (by decide) ?_
          refine lv_icmp_gt (tgt := 90) hx hb dX10_isSimple_83 (by decide) (fun c16 => ?_) (fun c17 => ?_)
          · have hw := hw.1 c16
            refine lv_iconst (v := 0) hx hb dX10_isSimple_90 (by decide) ?_
            refine lv_istore_n (lv' := [(1, .int (0 : Int32)), (0, .ref h_p0), (2, .int v2), (3, .int v3)]) hx hb dX10_isSimple_91 rfl hl (by decide) rfl (fun ls hl => ?_)
            obtain ⟨x18, ex18⟩ : ∃ y : Int32, y = v3 + (1 : Int32) := ⟨_, rfl⟩
            have hw := hw x18 ex18
            refine lv_iinc (v := x18) (lv' := [(3, .int x18), (1, .int (0 : Int32)), (0, .ref h_p0), (2, .int v2)]) hx hb dX10_isSimple_92 hl (k := 3) rfl (by rw [ex18]; rfl) (by decide) rfl (fun ls hl => ?_)
            refine lv_goto (tgt := 44) hx hb dX10_isSimple_95 (by decide) ?_
            exact ih _ _ hw _ _ _ hP hD hS (lv_sub hl [2, 1, 3, 0] rfl)
          · have hw := hw.2 c17
            refine lv_iconst (v := 1) hx hb dX10_isSimple_86 (by decide) ?_
            refine lv_goto (tgt := 91) hx hb dX10_isSimple_87 (by decide) ?_
            refine lv_istore_n (lv' := [(1, .int (1 : Int32)), (0, .ref h_p0), (2, .int v2), (3, .int v3)]) hx hb dX10_isSimple_91 rfl hl (by decide) rfl (fun ls hl => ?_)
            obtain ⟨x19, ex19⟩ : ∃ y : Int32, y = v3 + (1 : Int32) := ⟨_, rfl⟩
            have hw := hw x19 ex19
            refine lv_iinc (v := x19) (lv' := [(3, .int x19), (1, .int (1 : Int32)), (0, .ref h_p0), (2, .int v2)]) hx hb dX10_isSimple_92 hl (k := 3) rfl (by rw [ex19]; rfl) (by decide) rfl (fun ls hl => ?_)
            refine lv_goto (tgt := 44) hx hb dX10_isSimple_95 (by decide) ?_
            exact ih _ _ hw _ _ _ hP hD hS (lv_sub hl [2, 1, 3, 0] rfl)
set_option maxHeartbeats 4000000 in
set_option maxRecDepth 100000 in
theorem c_X10_isSimple_L15 {p : Program} {l : Launch} {e : Env} {s : State} {m : MethodId} {args : Array Value} {below : List Frame} {meth : Method} {c : Code} {dC : Nat → ClassId} {dI : Nat → Nat → Nat} {A : Nat → Prop} {cI cJ cZ : ClassId} {h_p0 : Nat} {ad_p0 : Nat → Nat} {p0_places : Int32} {p0_steps : Int32} {p0_pastFirst : Int32} {p0_past : Int32} {p0_goings : Int32} {p0_rowSize : Int32} {p0_ways : Int32} {p0_hasField : Int32} {p0_fieldSize : Int32} {p0_faultNow : Int32} {p0_hasTree : Int32} {p0_treeSize : Int32} {p0_weightCount : Int32} {p0_roundCount : Int32} {p0_setCount : Int32} {p0_colour : Nat → Int32} {p0_puts : Nat → Int32} {p0_sort : Nat → Int32} {p0_takes : Nat → Int32}  {post : Int32 → Prop} {K : (Int32) → (Int32) → Prop} (E0 : xEnv p s m args meth c cX10_isSimple (some .boolean) 4 RX10 wsX10_isSimple (dC, dI) cI cJ cZ A) (hk : ∀ (v1 : Int32) (v2 : Int32) (H : Heap) (locs : List Loc) (ls : Array Slot), K v1 v2 → va_P (dC, dI) vwCl (wld_X10_isSimple cI cJ cZ h_p0 ad_p0 p0_places p0_steps p0_pastFirst p0_past p0_goings p0_rowSize p0_ways p0_hasField p0_fieldSize p0_faultNow p0_hasTree p0_treeSize p0_weightCount p0_roundCount p0_setCount p0_colour p0_puts p0_sort p0_takes) H → va_D A (wld_X10_isSimple cI cJ cZ h_p0 ad_p0 p0_places p0_steps p0_pastFirst p0_past p0_goings p0_rowSize p0_ways p0_hasField p0_fieldSize p0_faultNow p0_hasTree p0_treeSize p0_weightCount p0_roundCount p0_setCount p0_colour p0_puts p0_sort p0_takes) → va_S A s.heap H locs → lv_has ls 4 [(1, .int v1)] → W p l e ({ frames := 1, cells := 0, slots := 0, locals := 22 }) s m args below meth c H locs 0 0 (MQ below (q_X10_isSimple dC dI cI cJ cZ h_p0 ad_p0 p0_places p0_steps p0_pastFirst p0_past p0_goings p0_rowSize p0_ways p0_hasField p0_fieldSize p0_faultNow p0_hasTree p0_treeSize p0_weightCount p0_roundCount p0_setCount p0_colour p0_puts p0_sort p0_takes post A) args s 0 0 A) (F0 m 104 ls [])) : ∀ (n : Nat) (v1 : Int32) (v2 : Int32), w_X10_isSimple_L15 p0_places p0_steps p0_colour p0_puts p0_sort p0_takes post K n v1 v2 → ∀ (H : Heap) (locs : List Loc) (ls : Array Slot), va_P (dC, dI) vwCl (wld_X10_isSimple cI cJ cZ h_p0 ad_p0 p0_places p0_steps p0_pastFirst p0_past p0_goings p0_rowSize p0_ways p0_hasField p0_fieldSize p0_faultNow p0_hasTree p0_treeSize p0_weightCount p0_roundCount p0_setCount p0_colour p0_puts p0_sort p0_takes) H → va_D A (wld_X10_isSimple cI cJ cZ h_p0 ad_p0 p0_places p0_steps p0_pastFirst p0_past p0_goings p0_rowSize p0_ways p0_hasField p0_fieldSize p0_faultNow p0_hasTree p0_treeSize p0_weightCount p0_roundCount p0_setCount p0_colour p0_puts p0_sort p0_takes) → va_S A s.heap H locs → lv_has ls 4 [(0, .ref h_p0), (1, .int v1), (2, .int v2)] → W p l e ({ frames := 1, cells := 0, slots := 0, locals := 22 }) s m args below meth c H locs 0 0 (MQ below (q_X10_isSimple dC dI cI cJ cZ h_p0 ad_p0 p0_places p0_steps p0_pastFirst p0_past p0_goings p0_rowSize p0_ways p0_hasField p0_fieldSize p0_faultNow p0_hasTree p0_treeSize p0_weightCount p0_roundCount p0_setCount p0_colour p0_puts p0_sort p0_takes post A) args s 0 0 A) (F0 m 15 ls []) := by
  obtain ⟨hx, hb, hr, hml, hown, hts, hlocks, hK, hA, n1, n2⟩ := id E0
  have iX10 : ∀ w ∈ u_ws RX10 TX10 50, w ∈ wsX10_isSimple := fun w h => List.mem_cons_of_mem _ (List.mem_append_right _ h)
  intro n
  induction n with
  | zero => intro v1 v2 hw; exact hw.elim
  | succ n ih =>
    intro v1 v2 hw H locs ls hP hD hS hl
    have hw : w_X10_isSimple_L15b p0_places p0_steps p0_colour p0_puts p0_sort p0_takes post K (w_X10_isSimple_L15 p0_places p0_steps p0_colour p0_puts p0_sort p0_takes post K n) v1 v2 := hw
    unfold w_X10_isSimple_L15b at hw
    refine lv_iload_n hx hb dX10_isSimple_15 rfl (lv_at hl 2 rfl) ?_
    refine lv_aload_n hx hb dX10_isSimple_16 rfl (lv_at hl 0 rfl) ?_
    refine va_get (D := (dC, dI)) (ci := 10) (v := .int p0_steps) (C := RX10) (T := TX10) (N := 50) hx hb hts iX10 hown hK hP 0 rfl rfl 1 (by decide) (hts (.fieldLink RX10 130 "NetHouseModel" "steps" "I") (by decide +kernel)) (fun _ h9 => h9) rfl dX10_isSimple_17 ?_
    refine lv_icmp_ge (tgt := 104) hx hb dX10_isSimple_20 (by decide) (fun c4 => ?_) (fun c5 => ?_)
    · have hw := hw.1 c4
      exact hk _ _ _ _ _ hw hP hD hS (lv_sub hl [1] rfl)
    · have hw := hw.2 c5
      refine lv_iload_n hx hb dX10_isSimple_23 rfl (lv_at hl 1 rfl) ?_
      refine lv_if_eq (tgt := 40) hx hb dX10_isSimple_24 (by decide) (fun c6 => ?_) (fun c7 => ?_)
      · have hw := hw.1 c6
        refine lv_iconst (v := 0) hx hb dX10_isSimple_40 (by decide) ?_
        refine lv_istore_n (lv' := [(1, .int (0 : Int32)), (0, .ref h_p0), (2, .int v2)]) hx hb dX10_isSimple_41 rfl hl (by decide) rfl (fun ls hl => ?_)
        refine lv_iconst (v := 0) hx hb dX10_isSimple_42 (by decide) ?_
        refine lv_istore_n (lv' := [(3, .int (0 : Int32)), (1, .int (0 : Int32)), (0, .ref h_p0), (2, .int v2)]) hx hb dX10_isSimple_43 rfl hl (by decide) rfl (fun ls hl => ?_)
        obtain ⟨n20, hw⟩ := hw
        refine c_X10_isSimple_L44 (l := l)  E0 ?_ n20 _ _ hw _ _ _ hP hD hS (lv_sub hl [2, 1, 3, 0] rfl)
        · intro v21 v22 H locs ls hw hP hD hS hl
          have hP : va_P (dC, dI) vwCl (wld_X10_isSimple cI cJ cZ h_p0 ad_p0 p0_places p0_steps p0_pastFirst p0_past p0_goings p0_rowSize p0_ways p0_hasField p0_fieldSize p0_faultNow p0_hasTree p0_treeSize p0_weightCount p0_roundCount p0_setCount p0_colour p0_puts p0_sort p0_takes) H := hP
          have hD : va_D A (wld_X10_isSimple cI cJ cZ h_p0 ad_p0 p0_places p0_steps p0_pastFirst p0_past p0_goings p0_rowSize p0_ways p0_hasField p0_fieldSize p0_faultNow p0_hasTree p0_treeSize p0_weightCount p0_roundCount p0_setCount p0_colour p0_puts p0_sort p0_takes) := hD
          obtain ⟨x23, ex23⟩ : ∃ y : Int32, y = v2 + (1 : Int32) := ⟨_, rfl⟩
          have hw := hw x23 ex23
          refine lv_iinc (v := x23) (lv' := [(2, .int x23), (0, .ref h_p0), (1, .int v21)]) hx hb dX10_isSimple_98 hl (k := 2) rfl (by rw [ex23]; rfl) (by decide) rfl (fun ls hl => ?_)
          refine lv_goto (tgt := 15) hx hb dX10_isSimple_101 (by decide) ?_
          exact ih _ _ hw _ _ _ hP hD hS (lv_sub hl [1, 2, 0] rfl)
      · have hw := hw.2 c7
        refine lv_aload_n hx hb dX10_isSimple_27 rfl (lv_at hl 0 rfl) ?_
        refine va_get (D := (dC, dI)) (ci := 10) (v := .ref (ad_p0 3)) (C := RX10) (T := TX10) (N := 50) hx hb hts iX10 hown hK hP 0 rfl rfl 3 (by decide) (hts (.fieldLink RX10 13 "NetHouseModel" "sort" "[I") (by decide +kernel)) (fun _ h9 => h9) rfl dX10_isSimple_28 ?_
        refine lv_iload_n hx hb dX10_isSimple_31 rfl (lv_at hl 2 rfl) ?_
        refine va_iald hx hb hK hP 3 0 rfl rfl hw.1 dX10_isSimple_32 ?_
        have hw := hw.2
        refine lv_if_ne (tgt := 40) hx hb dX10_isSimple_33 (by decide) (fun c24 => ?_) (fun c25 => ?_)
        · have hw := hw.1 c24
          refine lv_iconst (v := 0) hx hb dX10_isSimple_40 (by decide) ?_
          refine lv_istore_n (lv' := [(1, .int (0 : Int32)), (0, .ref h_p0), (2, .int v2)]) hx hb dX10_isSimple_41 rfl hl (by decide) rfl (fun ls hl => ?_)
          refine lv_iconst (v := 0) hx hb dX10_isSimple_42 (by decide) ?_
          refine lv_istore_n (lv' := [(3, .int (0 : Int32)), (1, .int (0 : Int32)), (0, .ref h_p0), (2, .int v2)]) hx hb dX10_isSimple_43 rfl hl (by decide) rfl (fun ls hl => ?_)
          obtain ⟨n26, hw⟩ := hw
          refine c_X10_isSimple_L44 (l := l)  E0 ?_ n26 _ _ hw _ _ _ hP hD hS (lv_sub hl [2, 1, 3, 0] rfl)
          · intro v27 v28 H locs ls hw hP hD hS hl
            have hP : va_P (dC, dI) vwCl (wld_X10_isSimple cI cJ cZ h_p0 ad_p0 p0_places p0_steps p0_pastFirst p0_past p0_goings p0_rowSize p0_ways p0_hasField p0_fieldSize p0_faultNow p0_hasTree p0_treeSize p0_weightCount p0_roundCount p0_setCount p0_colour p0_puts p0_sort p0_takes) H := hP
            have hD : va_D A (wld_X10_isSimple cI cJ cZ h_p0 ad_p0 p0_places p0_steps p0_pastFirst p0_past p0_goings p0_rowSize p0_ways p0_hasField p0_fieldSize p0_faultNow p0_hasTree p0_treeSize p0_weightCount p0_roundCount p0_setCount p0_colour p0_puts p0_sort p0_takes) := hD
            obtain ⟨x29, ex29⟩ : ∃ y : Int32, y = v2 + (1 : Int32) := ⟨_, rfl⟩
            have hw := hw x29 ex29
            refine lv_iinc (v := x29) (lv' := [(2, .int x29), (0, .ref h_p0), (1, .int v27)]) hx hb dX10_isSimple_98 hl (k := 2) rfl (by rw [ex29]; rfl) (by decide) rfl (fun ls hl => ?_)
            refine lv_goto (tgt := 15) hx hb dX10_isSimple_101 (by decide) ?_
            exact ih _ _ hw _ _ _ hP hD hS (lv_sub hl [1, 2, 0] rfl)
        · have hw := hw.2 c25
          refine lv_iconst (v := 1) hx hb dX10_isSimple_36 (by decide) ?_
          refine lv_goto (tgt := 41) hx hb dX10_isSimple_37 (by decide) ?_
          refine lv_istore_n (lv' := [(1, .int (1 : Int32)), (0, .ref h_p0), (2, .int v2)]) hx hb dX10_isSimple_41 rfl hl (by decide) rfl (fun ls hl => ?_)
          refine lv_iconst (v := 0) hx hb dX10_isSimple_42 (by decide) ?_
          refine lv_istore_n (lv' := [(3, .int (0 : Int32)), (1, .int (1 : Int32)), (0, .ref h_p0), (2, .int v2)]) hx hb dX10_isSimple_43 rfl hl (by decide) rfl (fun ls hl => ?_)
          obtain ⟨n30, hw⟩ := hw
          refine c_X10_isSimple_L44 (l := l)  E0 ?_ n30 _ _ hw _ _ _ hP hD hS (lv_sub hl [2, 1, 3, 0] rfl)
          · intro v31 v32 H locs ls hw hP hD hS hl
            have hP : va_P (dC, dI) vwCl (wld_X10_isSimple cI cJ cZ h_p0 ad_p0 p0_places p0_steps p0_pastFirst p0_past p0_goings p0_rowSize p0_ways p0_hasField p0_fieldSize p0_faultNow p0_hasTree p0_treeSize p0_weightCount p0_roundCount p0_setCount p0_colour p0_puts p0_sort p0_takes) H := hP
            have hD : va_D A (wld_X10_isSimple cI cJ cZ h_p0 ad_p0 p0_places p0_steps p0_pastFirst p0_past p0_goings p0_rowSize p0_ways p0_hasField p0_fieldSize p0_faultNow p0_hasTree p0_treeSize p0_weightCount p0_roundCount p0_setCount p0_colour p0_puts p0_sort p0_takes) := hD
            obtain ⟨x33, ex33⟩ : ∃ y : Int32, y = v2 + (1 : Int32) := ⟨_, rfl⟩
            have hw := hw x33 ex33
            refine lv_iinc (v := x33) (lv' := [(2, .int x33), (0, .ref h_p0), (1, .int v31)]) hx hb dX10_isSimple_98 hl (k := 2) rfl (by rw [ex33]; rfl) (by decide) rfl (fun ls hl => ?_)
            refine lv_goto (tgt := 15) hx hb dX10_isSimple_101 (by decide) ?_
            exact ih _ _ hw _ _ _ hP hD hS (lv_sub hl [1, 2, 0] rfl)
set_option maxHeartbeats 4000000 in
set_option maxRecDepth 100000 in
theorem c_X10_isSimple {l : Launch} {dC : Nat → ClassId} {dI : Nat → Nat → Nat} {sz : Nat} {cI cJ cZ : ClassId} {h_p0 : Nat} {ad_p0 : Nat → Nat} {p0_places : Int32} {p0_steps : Int32} {p0_pastFirst : Int32} {p0_past : Int32} {p0_goings : Int32} {p0_rowSize : Int32} {p0_ways : Int32} {p0_hasField : Int32} {p0_fieldSize : Int32} {p0_faultNow : Int32} {p0_hasTree : Int32} {p0_treeSize : Int32} {p0_weightCount : Int32} {p0_roundCount : Int32} {p0_setCount : Int32} {p0_colour : Nat → Int32} {p0_puts : Nat → Int32} {p0_sort : Nat → Int32} {p0_takes : Nat → Int32}  {post : Int32 → Prop} (hw : w_X10_isSimple p0_places p0_steps p0_colour p0_puts p0_sort p0_takes post) : Met l yX10_isSimple wsX10_isSimple ({ frames := 1, cells := 0, slots := 0, locals := 22 }) (va_Pc [.ref h_p0] (xPre (dC, dI) cI cJ cZ (wld_X10_isSimple cI cJ cZ h_p0 ad_p0 p0_places p0_steps p0_pastFirst p0_past p0_goings p0_rowSize p0_ways p0_hasField p0_fieldSize p0_faultNow p0_hasTree p0_treeSize p0_weightCount p0_roundCount p0_setCount p0_colour p0_puts p0_sort p0_takes) sz)) (q_X10_isSimple dC dI cI cJ cZ h_p0 ad_p0 p0_places p0_steps p0_pastFirst p0_past p0_goings p0_rowSize p0_ways p0_hasField p0_fieldSize p0_faultNow p0_hasTree p0_treeSize p0_weightCount p0_roundCount p0_setCount p0_colour p0_puts p0_sort p0_takes post (va_A (wld_X10_isSimple cI cJ cZ h_p0 ad_p0 p0_places p0_steps p0_pastFirst p0_past p0_goings p0_rowSize p0_ways p0_hasField p0_fieldSize p0_faultNow p0_hasTree p0_treeSize p0_weightCount p0_roundCount p0_setCount p0_colour p0_puts p0_sort p0_takes) sz)) 0 0 (va_A (wld_X10_isSimple cI cJ cZ h_p0 ad_p0 p0_places p0_steps p0_pastFirst p0_past p0_goings p0_rowSize p0_ways p0_hasField p0_fieldSize p0_faultNow p0_hasTree p0_treeSize p0_weightCount p0_roundCount p0_setCount p0_colour p0_puts p0_sort p0_takes) sz) := by
  refine x_met (cc := cX10_isSimple) (maxL := 4) (ret := (some .boolean)) (own := RX10) (Qc := fun A => (q_X10_isSimple dC dI cI cJ cZ h_p0 ad_p0 p0_places p0_steps p0_pastFirst p0_past p0_goings p0_rowSize p0_ways p0_hasField p0_fieldSize p0_faultNow p0_hasTree p0_treeSize p0_weightCount p0_roundCount p0_setCount p0_colour p0_puts p0_sort p0_takes post A)) (by decide) rfl rfl (Nat.le_of_ble_eq_true rfl) ?_
  intro p e s m args below meth c A ls E0 hP hD hS hl
  obtain ⟨hx, hb, hr, hml, hown, hts, hlocks, hK, hA, n1, n2⟩ := id E0
  have iX10 : ∀ w ∈ u_ws RX10 TX10 50, w ∈ wsX10_isSimple := fun w h => List.mem_cons_of_mem _ (List.mem_append_right _ h)
  have hS0 := hS
  have hl : lv_has ls 4 [(0, .ref h_p0)] := hl
  unfold w_X10_isSimple at hw
  obtain ⟨H, hH⟩ : ∃ H, H = s.heap := ⟨_, rfl⟩
  have hS : va_S A s.heap H [] := by rw [hH]; exact hS
  have hP : va_P (dC, dI) vwCl (wld_X10_isSimple cI cJ cZ h_p0 ad_p0 p0_places p0_steps p0_pastFirst p0_past p0_goings p0_rowSize p0_ways p0_hasField p0_fieldSize p0_faultNow p0_hasTree p0_treeSize p0_weightCount p0_roundCount p0_setCount p0_colour p0_puts p0_sort p0_takes) H := by rw [hH]; exact hP
  suffices hG : W p l e ({ frames := 1, cells := 0, slots := 0, locals := 22 }) s m args below meth c H [] 0 0 (MQ below (q_X10_isSimple dC dI cI cJ cZ h_p0 ad_p0 p0_places p0_steps p0_pastFirst p0_past p0_goings p0_rowSize p0_ways p0_hasField p0_fieldSize p0_faultNow p0_hasTree p0_treeSize p0_weightCount p0_roundCount p0_setCount p0_colour p0_puts p0_sort p0_takes post A) args s 0 0 A) (F0 m 0 ls []) by rw [hH] at hG; exact hG
  clear hH
  refine lv_aload_n hx hb dX10_isSimple_0 rfl (lv_at hl 0 rfl) ?_
  obtain ⟨hPc, hDc⟩ := x_sub (wc := (wld_X10_hasColour cI cJ cZ h_p0 ad_p0 p0_places p0_steps p0_pastFirst p0_past p0_goings p0_rowSize p0_ways p0_hasField p0_fieldSize p0_faultNow p0_hasTree p0_treeSize p0_weightCount p0_roundCount p0_setCount p0_colour)) hP hD [0, 1] (n := 5) rfl rfl (by decide +kernel)
  refine x_calli (ws' := fun (u : Unit) => (wld_X10_isSimple cI cJ cZ h_p0 ad_p0 p0_places p0_steps p0_pastFirst p0_past p0_goings p0_rowSize p0_ways p0_hasField p0_fieldSize p0_faultNow p0_hasTree p0_treeSize p0_weightCount p0_roundCount p0_setCount p0_colour p0_puts p0_sort p0_takes)) hP hD hS hA [0, 1] [2, 3, 4] [3, 4, 0, 1, 2] (n := 5) (k := 2) rfl (fun _ => rfl) rfl (by decide +kernel) (fun _ => rfl) (va_runV (As := []) (rest := []) ⟨hx, hb, hml, hown, hts⟩ (c_X10_hasColour (l := l) (dC := dC) (dI := dI) (cI := cI) (cJ := cJ) (cZ := cZ) (sz := H.size) (h_p0 := h_p0) (ad_p0 := ad_p0) (p0_places := p0_places) (p0_steps := p0_steps) (p0_pastFirst := p0_pastFirst) (p0_past := p0_past) (p0_goings := p0_goings) (p0_rowSize := p0_rowSize) (p0_ways := p0_ways) (p0_hasField := p0_hasField) (p0_fieldSize := p0_fieldSize) (p0_faultNow := p0_faultNow) (p0_hasTree := p0_hasTree) (p0_treeSize := p0_treeSize) (p0_weightCount := p0_weightCount) (p0_roundCount := p0_roundCount) (p0_setCount := p0_setCount) (p0_colour := p0_colour) hw) (cwV 0 hts gX10_isSimple_X10_hasColour rfl rfl rfl (by decide +kernel) ⟨Nat.le_of_ble_eq_true rfl, Nat.le_of_ble_eq_true rfl⟩) ⟨xPre_blind, va_recv hK hP (ci := 10) (q0 := 0) rfl rfl, xPre_at hK hPc hDc n1 n2⟩ rfl rfl hl.1 rfl (lv_room (Nat.le_of_ble_eq_true rfl)) dX10_isSimple_1 ⟨Nat.zero_le _, Nat.zero_le _⟩) (fun r1 u H locs hw hP hD hS => ?_)
  try dsimp only at hw
  have hP : va_P (dC, dI) vwCl (wld_X10_isSimple cI cJ cZ h_p0 ad_p0 p0_places p0_steps p0_pastFirst p0_past p0_goings p0_rowSize p0_ways p0_hasField p0_fieldSize p0_faultNow p0_hasTree p0_treeSize p0_weightCount p0_roundCount p0_setCount p0_colour p0_puts p0_sort p0_takes) H := hP
  have hD : va_D A (wld_X10_isSimple cI cJ cZ h_p0 ad_p0 p0_places p0_steps p0_pastFirst p0_past p0_goings p0_rowSize p0_ways p0_hasField p0_fieldSize p0_faultNow p0_hasTree p0_treeSize p0_weightCount p0_roundCount p0_setCount p0_colour p0_puts p0_sort p0_takes) := hD
  refine lv_if_ne (tgt := 11) hx hb dX10_isSimple_4 (by decide) (fun c2 => ?_) (fun c3 => ?_)
  · have hw := hw.1 c2
    refine lv_iconst (v := 0) hx hb dX10_isSimple_11 (by decide) ?_
    refine lv_istore_n (lv' := [(1, .int (0 : Int32)), (0, .ref h_p0)]) hx hb dX10_isSimple_12 rfl hl (by decide) rfl (fun ls hl => ?_)
    refine lv_iconst (v := 0) hx hb dX10_isSimple_13 (by decide) ?_
    refine lv_istore_n (lv' := [(2, .int (0 : Int32)), (1, .int (0 : Int32)), (0, .ref h_p0)]) hx hb dX10_isSimple_14 rfl hl (by decide) rfl (fun ls hl => ?_)
    obtain ⟨n34, hw⟩ := hw
    refine c_X10_isSimple_L15 (l := l)  E0 ?_ n34 _ _ hw _ _ _ hP hD hS (lv_sub hl [2, 1, 0] rfl)
    · intro v35 v36 H locs ls hw hP hD hS hl
      have hP : va_P (dC, dI) vwCl (wld_X10_isSimple cI cJ cZ h_p0 ad_p0 p0_places p0_steps p0_pastFirst p0_past p0_goings p0_rowSize p0_ways p0_hasField p0_fieldSize p0_faultNow p0_hasTree p0_treeSize p0_weightCount p0_roundCount p0_setCount p0_colour p0_puts p0_sort p0_takes) H := hP
      have hD : va_D A (wld_X10_isSimple cI cJ cZ h_p0 ad_p0 p0_places p0_steps p0_pastFirst p0_past p0_goings p0_rowSize p0_ways p0_hasField p0_fieldSize p0_faultNow p0_hasTree p0_treeSize p0_weightCount p0_roundCount p0_setCount p0_colour p0_puts p0_sort p0_takes) := hD
      refine lv_iload_n hx hb dX10_isSimple_104 rfl (lv_at hl 0 rfl) ?_
      have hv := hw.1
      have hw := hw.2
      exact x_zret (w1 := fun (u : Unit) => (wld_X10_isSimple cI cJ cZ h_p0 ad_p0 p0_places p0_steps p0_pastFirst p0_past p0_goings p0_rowSize p0_ways p0_hasField p0_fieldSize p0_faultNow p0_hasTree p0_treeSize p0_weightCount p0_roundCount p0_setCount p0_colour p0_puts p0_sort p0_takes)) hx hb hr hlocks hv () hw hP hD hS dX10_isSimple_105
  · have hw := hw.2 c3
    refine lv_iconst (v := 1) hx hb dX10_isSimple_7 (by decide) ?_
    refine lv_goto (tgt := 12) hx hb dX10_isSimple_8 (by decide) ?_
    refine lv_istore_n (lv' := [(1, .int (1 : Int32)), (0, .ref h_p0)]) hx hb dX10_isSimple_12 rfl hl (by decide) rfl (fun ls hl => ?_)
    refine lv_iconst (v := 0) hx hb dX10_isSimple_13 (by decide) ?_
    refine lv_istore_n (lv' := [(2, .int (0 : Int32)), (1, .int (1 : Int32)), (0, .ref h_p0)]) hx hb dX10_isSimple_14 rfl hl (by decide) rfl (fun ls hl => ?_)
    obtain ⟨n37, hw⟩ := hw
    refine c_X10_isSimple_L15 (l := l)  E0 ?_ n37 _ _ hw _ _ _ hP hD hS (lv_sub hl [2, 1, 0] rfl)
    · intro v38 v39 H locs ls hw hP hD hS hl
      have hP : va_P (dC, dI) vwCl (wld_X10_isSimple cI cJ cZ h_p0 ad_p0 p0_places p0_steps p0_pastFirst p0_past p0_goings p0_rowSize p0_ways p0_hasField p0_fieldSize p0_faultNow p0_hasTree p0_treeSize p0_weightCount p0_roundCount p0_setCount p0_colour p0_puts p0_sort p0_takes) H := hP
      have hD : va_D A (wld_X10_isSimple cI cJ cZ h_p0 ad_p0 p0_places p0_steps p0_pastFirst p0_past p0_goings p0_rowSize p0_ways p0_hasField p0_fieldSize p0_faultNow p0_hasTree p0_treeSize p0_weightCount p0_roundCount p0_setCount p0_colour p0_puts p0_sort p0_takes) := hD
      refine lv_iload_n hx hb dX10_isSimple_104 rfl (lv_at hl 0 rfl) ?_
      have hv := hw.1
      have hw := hw.2
      exact x_zret (w1 := fun (u : Unit) => (wld_X10_isSimple cI cJ cZ h_p0 ad_p0 p0_places p0_steps p0_pastFirst p0_past p0_goings p0_rowSize p0_ways p0_hasField p0_fieldSize p0_faultNow p0_hasTree p0_treeSize p0_weightCount p0_roundCount p0_setCount p0_colour p0_puts p0_sort p0_takes)) hx hb hr hlocks hv () hw hP hD hS dX10_isSimple_105
abbrev wld_X10_free (cI cJ cZ : ClassId) (h_p0 : Nat) (ad_p0 : Nat → Nat) (p0_places : Int32) (p0_steps : Int32) (p0_pastFirst : Int32) (p0_past : Int32) (p0_goings : Int32) (p0_rowSize : Int32) (p0_ways : Int32) (p0_hasField : Int32) (p0_fieldSize : Int32) (p0_faultNow : Int32) (p0_hasTree : Int32) (p0_treeSize : Int32) (p0_weightCount : Int32) (p0_roundCount : Int32) (p0_setCount : Int32) (p0_colour : Nat → Int32) (p0_puts : Nat → Int32) (p0_sort : Nat → Int32) (p0_takes : Nat → Int32) : va_W := [(h_p0, .inr (10, [.int p0_places, .int p0_steps, .ref (ad_p0 2), .ref (ad_p0 3), .ref (ad_p0 4), .ref (ad_p0 5), .ref (ad_p0 6), .ref (ad_p0 7), .ref (ad_p0 8), .ref (ad_p0 9), .ref (ad_p0 10), .ref (ad_p0 11), .ref (ad_p0 12), .ref (ad_p0 13), .ref (ad_p0 14), .int p0_pastFirst, .int p0_past, .int p0_goings, .int p0_rowSize, .ref (ad_p0 19), .ref (ad_p0 20), .int p0_ways, .ref (ad_p0 22), .ref (ad_p0 23), .int p0_hasField, .int p0_fieldSize, .ref (ad_p0 26), .ref (ad_p0 27), .ref (ad_p0 28), .ref (ad_p0 29), .ref (ad_p0 30), .ref (ad_p0 31), .ref (ad_p0 32), .int p0_faultNow, .int p0_hasTree, .int p0_treeSize, .ref (ad_p0 36), .ref (ad_p0 37), .ref (ad_p0 38), .ref (ad_p0 39), .ref (ad_p0 40), .ref (ad_p0 41), .ref (ad_p0 42), .int p0_weightCount, .ref (ad_p0 44), .int p0_roundCount, .ref (ad_p0 46), .int p0_setCount, .ref (ad_p0 48), .ref (ad_p0 49)])), ((ad_p0 2), .inl (cI, 16, .inl p0_colour)), ((ad_p0 5), .inl (cI, 256, .inl p0_puts)), ((ad_p0 3), .inl (cI, 16, .inl p0_sort)), ((ad_p0 4), .inl (cI, 256, .inl p0_takes))]
abbrev q_X10_free (dC : Nat → ClassId) (dI : Nat → Nat → Nat) (cI cJ cZ : ClassId) (h_p0 : Nat) (ad_p0 : Nat → Nat) (p0_places : Int32) (p0_steps : Int32) (p0_pastFirst : Int32) (p0_past : Int32) (p0_goings : Int32) (p0_rowSize : Int32) (p0_ways : Int32) (p0_hasField : Int32) (p0_fieldSize : Int32) (p0_faultNow : Int32) (p0_hasTree : Int32) (p0_treeSize : Int32) (p0_weightCount : Int32) (p0_roundCount : Int32) (p0_setCount : Int32) (p0_colour : Nat → Int32) (p0_puts : Nat → Int32) (p0_sort : Nat → Int32) (p0_takes : Nat → Int32) (post : Int32 → Prop) (A : Nat → Prop) : Array Value → State → Outcome → State → Prop := va_Qi (fun r (u : Unit) => post r ) (fun (u : Unit) t => xPost (dC, dI) A (wld_X10_free cI cJ cZ h_p0 ad_p0 p0_places p0_steps p0_pastFirst p0_past p0_goings p0_rowSize p0_ways p0_hasField p0_fieldSize p0_faultNow p0_hasTree p0_treeSize p0_weightCount p0_roundCount p0_setCount p0_colour p0_puts p0_sort p0_takes) t) A
def w_X10_free_L23b (v1 : Int32) (v2 : Int32) (p0_places : Int32) (p0_steps : Int32) (p0_colour : Nat → Int32) (p0_puts : Nat → Int32) (p0_sort : Nat → Int32) (p0_takes : Nat → Int32) (post : Int32 → Prop) (K : (Int32) → (Int32) → (Int32) → Prop) (rec : (Int32) → (Int32) → (Int32) → Prop) (v3 : Int32) (v4 : Int32) (v5 : Int32) : Prop :=
    (p0_steps ≤ v5 →
      K v3 v4 v5) ∧
    (¬ p0_steps ≤ v5 →
      vp_in (((16 : Int32) * v5) + v2) 256 ∧
      ((p0_takes (((16 : Int32) * v5) + v2).toNatClampNeg) ≤ 0 →
        ∀ x8 : Int32, x8 = v5 + (1 : Int32) →
        rec v3 v4 x8) ∧
      (¬ (p0_takes (((16 : Int32) * v5) + v2).toNatClampNeg) ≤ 0 →
        ∀ x9 : Int32, x9 = v3 + (1 : Int32) →
        (v4 = 0 →
          ∀ x12 : Int32, x12 = v5 + (1 : Int32) →
          rec x9 (0 : Int32) x12) ∧
        (¬ v4 = 0 →
          w_X10_bitsOf p0_places p0_puts p0_takes v5 (1 : Int32) (fun r13 =>
          w_X10_manyBits r13 (fun r14 =>
          (¬ r14 = (1 : Int32) →
            ∀ x17 : Int32, x17 = v5 + (1 : Int32) →
            rec x9 (0 : Int32) x17) ∧
          (r14 = (1 : Int32) →
            ∀ x18 : Int32, x18 = v5 + (1 : Int32) →
            rec x9 (1 : Int32) x18))))))
def w_X10_free_L23 (v1 : Int32) (v2 : Int32) (p0_places : Int32) (p0_steps : Int32) (p0_colour : Nat → Int32) (p0_puts : Nat → Int32) (p0_sort : Nat → Int32) (p0_takes : Nat → Int32) (post : Int32 → Prop) (K : (Int32) → (Int32) → (Int32) → Prop) : Nat → (Int32) → (Int32) → (Int32) → Prop
  | 0, _, _, _ => False
  | n + 1, v3, v4, v5 => w_X10_free_L23b v1 v2 p0_places p0_steps p0_colour p0_puts p0_sort p0_takes post K (w_X10_free_L23 v1 v2 p0_places p0_steps p0_colour p0_puts p0_sort p0_takes post K n) v3 v4 v5
def w_X10_free_L7b (p0_places : Int32) (p0_steps : Int32) (p0_colour : Nat → Int32) (p0_puts : Nat → Int32) (p0_sort : Nat → Int32) (p0_takes : Nat → Int32) (post : Int32 → Prop) (K : (Int32) → (Int32) → Prop) (rec : (Int32) → (Int32) → Prop) (v1 : Int32) (v2 : Int32) : Prop :=
    (p0_places ≤ v2 →
      K v1 v2) ∧
    (¬ p0_places ≤ v2 →
      ∃ n : Nat, w_X10_free_L23 v1 v2 p0_places p0_steps p0_colour p0_puts p0_sort p0_takes post (fun v20 v21 v22 =>
          (v1 = 0 →
            ∀ x25 : Int32, x25 = v2 + (1 : Int32) →
            rec (0 : Int32) x25) ∧
          (¬ v1 = 0 →
            (v20 ≤ 0 →
              ∀ x28 : Int32, x28 = v2 + (1 : Int32) →
              rec (0 : Int32) x28) ∧
            (¬ v20 ≤ 0 →
              (v20 = (1 : Int32) →
                ∀ x31 : Int32, x31 = v2 + (1 : Int32) →
                rec (1 : Int32) x31) ∧
              (¬ v20 = (1 : Int32) →
                (v21 = 0 →
                  ∀ x34 : Int32, x34 = v2 + (1 : Int32) →
                  rec (0 : Int32) x34) ∧
                (¬ v21 = 0 →
                  ∀ x35 : Int32, x35 = v2 + (1 : Int32) →
                  rec (1 : Int32) x35))))) n (0 : Int32) (1 : Int32) (0 : Int32))
def w_X10_free_L7 (p0_places : Int32) (p0_steps : Int32) (p0_colour : Nat → Int32) (p0_puts : Nat → Int32) (p0_sort : Nat → Int32) (p0_takes : Nat → Int32) (post : Int32 → Prop) (K : (Int32) → (Int32) → Prop) : Nat → (Int32) → (Int32) → Prop
  | 0, _, _ => False
  | n + 1, v1, v2 => w_X10_free_L7b p0_places p0_steps p0_colour p0_puts p0_sort p0_takes post K (w_X10_free_L7 p0_places p0_steps p0_colour p0_puts p0_sort p0_takes post K n) v1 v2
def w_X10_free (p0_places : Int32) (p0_steps : Int32) (p0_colour : Nat → Int32) (p0_puts : Nat → Int32) (p0_sort : Nat → Int32) (p0_takes : Nat → Int32) (post : Int32 → Prop) : Prop :=
  w_X10_isSimple p0_places p0_steps p0_colour p0_puts p0_sort p0_takes (fun r1 =>
  ∃ n : Nat, w_X10_free_L7 p0_places p0_steps p0_colour p0_puts p0_sort p0_takes post (fun v37 v38 =>
      (v37 = 0 →
        (post (0 : Int32))) ∧
      (¬ v37 = 0 →
        (post (1 : Int32)))) n r1 (0 : Int32))
set_option maxHeartbeats 4000000 in
set_option maxRecDepth 100000 in
theorem c_X10_free_L23 {p : Program} {l : Launch} {e : Env} {s : State} {m : MethodId} {args : Array Value} {below : List Frame} {meth : Method} {c : Code} {dC : Nat → ClassId} {dI : Nat → Nat → Nat} {A : Nat → Prop} {cI cJ cZ : ClassId} {h_p0 : Nat} {ad_p0 : Nat → Nat} {p0_places : Int32} {p0_steps : Int32} {p0_pastFirst : Int32} {p0_past : Int32} {p0_goings : Int32} {p0_rowSize : Int32} {p0_ways : Int32} {p0_hasField : Int32} {p0_fieldSize : Int32} {p0_faultNow : Int32} {p0_hasTree : Int32} {p0_treeSize : Int32} {p0_weightCount : Int32} {p0_roundCount : Int32} {p0_setCount : Int32} {p0_colour : Nat → Int32} {p0_puts : Nat → Int32} {p0_sort : Nat → Int32} {p0_takes : Nat → Int32} {v1 : Int32} {v2 : Int32}  {post : Int32 → Prop} {K : (Int32) → (Int32) → (Int32) → Prop} (E0 : xEnv p s m args meth c cX10_free (some .int) 6 RX10 wsX10_free (dC, dI) cI cJ cZ A) (hk : ∀ (v3 : Int32) (v4 : Int32) (v5 : Int32) (H : Heap) (locs : List Loc) (ls : Array Slot), K v3 v4 v5 → va_P (dC, dI) vwCl (wld_X10_free cI cJ cZ h_p0 ad_p0 p0_places p0_steps p0_pastFirst p0_past p0_goings p0_rowSize p0_ways p0_hasField p0_fieldSize p0_faultNow p0_hasTree p0_treeSize p0_weightCount p0_roundCount p0_setCount p0_colour p0_puts p0_sort p0_takes) H → va_D A (wld_X10_free cI cJ cZ h_p0 ad_p0 p0_places p0_steps p0_pastFirst p0_past p0_goings p0_rowSize p0_ways p0_hasField p0_fieldSize p0_faultNow p0_hasTree p0_treeSize p0_weightCount p0_roundCount p0_setCount p0_colour p0_puts p0_sort p0_takes) → va_S A s.heap H locs → lv_has ls 6 [(0, .ref h_p0), (1, .int v1), (2, .int v2), (3, .int v3), (4, .int v4)] → W p l e ({ frames := 2, cells := 0, slots := 0, locals := 45 }) s m args below meth c H locs 0 0 (MQ below (q_X10_free dC dI cI cJ cZ h_p0 ad_p0 p0_places p0_steps p0_pastFirst p0_past p0_goings p0_rowSize p0_ways p0_hasField p0_fieldSize p0_faultNow p0_hasTree p0_treeSize p0_weightCount p0_roundCount p0_setCount p0_colour p0_puts p0_sort p0_takes post A) args s 0 0 A) (F0 m 83 ls [])) : ∀ (n : Nat) (v3 : Int32) (v4 : Int32) (v5 : Int32), w_X10_free_L23 v1 v2 p0_places p0_steps p0_colour p0_puts p0_sort p0_takes post K n v3 v4 v5 → ∀ (H : Heap) (locs : List Loc) (ls : Array Slot), va_P (dC, dI) vwCl (wld_X10_free cI cJ cZ h_p0 ad_p0 p0_places p0_steps p0_pastFirst p0_past p0_goings p0_rowSize p0_ways p0_hasField p0_fieldSize p0_faultNow p0_hasTree p0_treeSize p0_weightCount p0_roundCount p0_setCount p0_colour p0_puts p0_sort p0_takes) H → va_D A (wld_X10_free cI cJ cZ h_p0 ad_p0 p0_places p0_steps p0_pastFirst p0_past p0_goings p0_rowSize p0_ways p0_hasField p0_fieldSize p0_faultNow p0_hasTree p0_treeSize p0_weightCount p0_roundCount p0_setCount p0_colour p0_puts p0_sort p0_takes) → va_S A s.heap H locs → lv_has ls 6 [(0, .ref h_p0), (1, .int v1), (2, .int v2), (3, .int v3), (4, .int v4), (5, .int v5)] → W p l e ({ frames := 2, cells := 0, slots := 0, locals := 45 }) s m args below meth c H locs 0 0 (MQ below (q_X10_free dC dI cI cJ cZ h_p0 ad_p0 p0_places p0_steps p0_pastFirst p0_past p0_goings p0_rowSize p0_ways p0_hasField p0_fieldSize p0_faultNow p0_hasTree p0_treeSize p0_weightCount p0_roundCount p0_setCount p0_colour p0_puts p0_sort p0_takes post A) args s 0 0 A) (F0 m 23 ls []) := by
  obtain ⟨hx, hb, hr, hml, hown, hts, hlocks, hK, hA, n1, n2⟩ := id E0
  have iX10 : ∀ w ∈ u_ws RX10 TX10 50, w ∈ wsX10_free := fun w h => List.mem_cons_of_mem _ (List.mem_append_right _ h)
  intro n
  induction n with
  | zero => intro v3 v4 v5 hw; exact hw.elim
  | succ n ih =>
    intro v3 v4 v5 hw H locs ls hP hD hS hl
    have hw : w_X10_free_L23b v1 v2 p0_places p0_steps p0_colour p0_puts p0_sort p0_takes post K (w_X10_free_L23 v1 v2 p0_places p0_steps p0_colour p0_puts p0_sort p0_takes post K n) v3 v4 v5 := hw
    unfold w_X10_free_L23b at hw
    refine lv_iload hx hb dX10_free_23 (lv_at hl 5 rfl) ?_
    refine lv_aload_n hx hb dX10_free_25 rfl (lv_at hl 0 rfl) ?_
    refine va_get (D := (dC, dI)) (ci := 10) (v := .int p0_steps) (C := RX10) (T := TX10) (N := 50) hx hb hts iX10 hown hK hP 0 rfl rfl 1 (by decide) (hts (.fieldLink RX10 130 "NetHouseModel" "steps" "I") (by decide +kernel)) (fun _ h9 => h9) rfl dX10_free_26 ?_
    refine lv_icmp_ge (tgt := 83) hx hb dX10_free_29 (by decide) (fun c4 => ?_) (fun c5 => ?_)
    · have hw := hw.1 c4
      exact hk _ _ _ _ _ _ hw hP hD hS (lv_sub hl [0, 1, 2, 3, 4] rfl)
    · have hw := hw.2 c5
      refine lv_aload_n hx hb dX10_free_32 rfl (lv_at hl 0 rfl) ?_
      refine va_get (D := (dC, dI)) (ci := 10) (v := .ref (ad_p0 4)) (C := RX10) (T := TX10) (N := 50) hx hb hts iX10 hown hK hP 0 rfl rfl 4 (by decide) (hts (.fieldLink RX10 16 "NetHouseModel" "takes" "[I") (by decide +kernel)) (fun _ h9 => h9) rfl dX10_free_33 ?_
      refine lv_bipush (v := 16) hx hb dX10_free_36 (by decide) ?_
      refine lv_iload hx hb dX10_free_38 (lv_at hl 5 rfl) ?_
      refine lv_imul hx hb dX10_free_40 ?_
      refine lv_iload_n hx hb dX10_free_41 rfl (lv_at hl 2 rfl) ?_
      refine lv_iadd hx hb dX10_free_42 ?_
      refine va_iald hx hb hK hP 4 0 rfl rfl hw.1 dX10_free_43 ?_
      have hw := hw.2
      refine lv_if_le (tgt := 77) hx hb dX10_free_44 (by decide) (fun c6 => ?_) (fun c7 => ?_)
      · have hw := hw.1 c6
        obtain ⟨x8, ex8⟩ : ∃ y : Int32, y = v5 + (1 : Int32) := ⟨_, rfl⟩
        have hw := hw x8 ex8
        refine lv_iinc (v := x8) (lv' := [(5, .int x8), (0, .ref h_p0), (1, .int v1), (2, .int v2), (3, .int v3), (4, .int v4)]) hx hb dX10_free_77 hl (k := 5) rfl (by rw [ex8]; rfl) (by decide) rfl (fun ls hl => ?_)
        refine lv_goto (tgt := 23) hx hb dX10_free_80 (by decide) ?_
        exact ih _ _ _ hw _ _ _ hP hD hS (lv_sub hl [1, 2, 3, 4, 5, 0] rfl)
      · have hw := hw.2 c7
        obtain ⟨x9, ex9⟩ : ∃ y : Int32, y = v3 + (1 : Int32) := ⟨_, rfl⟩
        have hw := hw x9 ex9
        refine lv_iinc (v := x9) (lv' := [(3, .int x9), (0, .ref h_p0), (1, .int v1), (2, .int v2), (4, .int v4), (5, .int v5)]) hx hb dX10_free_47 hl (k := 3) rfl (by rw [ex9]; rfl) (by decide) rfl (fun ls hl => ?_)
        refine lv_iload hx hb dX10_free_50 (lv_at hl 4 rfl) ?_
        refine lv_if_eq (tgt := 74) hx hb dX10_free_52 (by decide) (fun c10 => ?_) (fun c11 => ?_)
        · have hw := hw.1 c10
          refine lv_iconst (v := 0) hx hb dX10_free_74 (by decide) ?_
          refine lv_istore (lv' := [(4, .int (0 : Int32)), (3, .int x9), (0, .ref h_p0), (1, .int v1), (2, .int v2), (5, .int v5)]) hx hb dX10_free_75 hl (by decide) rfl (fun ls hl => ?_)
          obtain ⟨x12, ex12⟩ : ∃ y : Int32, y = v5 + (1 : Int32) := ⟨_, rfl⟩
          have hw := hw x12 ex12
          refine lv_iinc (v := x12) (lv' := [(5, .int x12), (4, .int (0 : Int32)), (3, .int x9), (0, .ref h_p0), (1, .int v1), (2, .int v2)]) hx hb dX10_free_77 hl (k := 5) rfl (by rw [ex12]; rfl) (by decide) rfl (fun ls hl => ?_)
          refine lv_goto (tgt := 23) hx hb dX10_free_80 (by decide) ?_
          exact ih _ _ _ hw _ _ _ hP hD hS (lv_sub hl [3, 4, 5, 2, 1, 0] rfl)
        · have hw := hw.2 c11
          refine lv_aload_n hx hb dX10_free_55 rfl (lv_at hl 1 rfl) ?_
          refine lv_aload_n hx hb dX10_free_56 rfl (lv_at hl 1 rfl) ?_
          refine lv_iload hx hb dX10_free_57 (lv_at hl 5 rfl) ?_
          refine lv_iconst (v := 1) hx hb dX10_free_59 (by decide) ?_
          obtain ⟨hPc, hDc⟩ := x_sub (wc := (wld_X10_bitsOf cI cJ cZ h_p0 ad_p0 p0_places p0_steps p0_pastFirst p0_past p0_goings p0_rowSize p0_ways p0_hasField p0_fieldSize p0_faultNow p0_hasTree p0_treeSize p0_weightCount p0_roundCount p0_setCount p0_puts p0_takes)) hP hD [0, 2, 4] (n := 5) rfl rfl (by decide +kernel)
          refine x_calli (ws' := fun (u : Unit) => (wld_X10_free cI cJ cZ h_p0 ad_p0 p0_places p0_steps p0_pastFirst p0_past p0_goings p0_rowSize p0_ways p0_hasField p0_fieldSize p0_faultNow p0_hasTree p0_treeSize p0_weightCount p0_roundCount p0_setCount p0_colour p0_puts p0_sort p0_takes)) hP hD hS hA [0, 2, 4] [1, 3] [2, 0, 3, 1, 4] (n := 5) (k := 3) rfl (fun _ => rfl) rfl (by decide +kernel) (fun _ => rfl) (va_runV (As := [.int v5, .int (1 : Int32)]) (rest := [.ref h_p0]) ⟨hx, hb, hml, hown, hts⟩ (c_X10_bitsOf (l := l) (dC := dC) (dI := dI) (cI := cI) (cJ := cJ) (cZ := cZ) (sz := H.size) (h_p0 := h_p0) (ad_p0 := ad_p0) (p0_places := p0_places) (p0_steps := p0_steps) (p0_pastFirst := p0_pastFirst) (p0_past := p0_past) (p0_goings := p0_goings) (p0_rowSize := p0_rowSize) (p0_ways := p0_ways) (p0_hasField := p0_hasField) (p0_fieldSize := p0_fieldSize) (p0_faultNow := p0_faultNow) (p0_hasTree := p0_hasTree) (p0_treeSize := p0_treeSize) (p0_weightCount := p0_weightCount) (p0_roundCount := p0_roundCount) (p0_setCount := p0_setCount) (p0_puts := p0_puts) (p0_takes := p0_takes) hw) (cwV 2 hts gX10_free_X10_bitsOf rfl rfl rfl (by decide +kernel) ⟨Nat.le_of_ble_eq_true rfl, Nat.le_of_ble_eq_true rfl⟩) ⟨xPre_blind, va_recv hK hP (ci := 10) (q0 := 0) rfl rfl, xPre_at hK hPc hDc n1 n2⟩ rfl rfl hl.1 rfl (lv_room (Nat.le_of_ble_eq_true rfl)) dX10_free_60 ⟨Nat.zero_le _, Nat.zero_le _⟩) (fun r13 u H locs hw hP hD hS => ?_)
          try dsimp only at hw
          have hP : va_P (dC, dI) vwCl (wld_X10_free cI cJ cZ h_p0 ad_p0 p0_places p0_steps p0_pastFirst p0_past p0_goings p0_rowSize p0_ways p0_hasField p0_fieldSize p0_faultNow p0_hasTree p0_treeSize p0_weightCount p0_roundCount p0_setCount p0_colour p0_puts p0_sort p0_takes) H := hP
          have hD : va_D A (wld_X10_free cI cJ cZ h_p0 ad_p0 p0_places p0_steps p0_pastFirst p0_past p0_goings p0_rowSize p0_ways p0_hasField p0_fieldSize p0_faultNow p0_hasTree p0_treeSize p0_weightCount p0_roundCount p0_setCount p0_colour p0_puts p0_sort p0_takes) := hD
          obtain ⟨hPc, hDc⟩ := x_sub (wc := (wld_X10_manyBits cI cJ cZ h_p0)) hP hD [] (n := 5) rfl rfl (by decide +kernel)
          refine x_calli (ws' := fun (u : Unit) => (wld_X10_free cI cJ cZ h_p0 ad_p0 p0_places p0_steps p0_pastFirst p0_past p0_goings p0_rowSize p0_ways p0_hasField p0_fieldSize p0_faultNow p0_hasTree p0_treeSize p0_weightCount p0_roundCount p0_setCount p0_colour p0_puts p0_sort p0_takes)) hP hD hS hA [] [0, 1, 2, 3, 4] [0, 1, 2, 3, 4] (n := 5) (k := 0) rfl (fun _ => rfl) rfl (by decide +kernel) (fun _ => rfl) (va_runV (As := [.int r13]) (rest := []) ⟨hx, hb, hml, hown, hts⟩ (c_X10_manyBits (l := l) (dC := dC) (dI := dI) (cI := cI) (cJ := cJ) (cZ := cZ) (sz := H.size) (h_p0 := h_p0) hw) (cwV 1 hts gX10_free_X10_manyBits rfl rfl rfl (by decide +kernel) ⟨Nat.le_of_ble_eq_true rfl, Nat.le_of_ble_eq_true rfl⟩) ⟨xPre_blind, va_recv hK hP (ci := 10) (q0 := 0) rfl rfl, xPre_at hK hPc hDc n1 n2⟩ rfl rfl hl.1 rfl (lv_room (Nat.le_of_ble_eq_true rfl)) dX10_free_63 ⟨Nat.zero_le _, Nat.zero_le _⟩) (fun r14 u H locs hw hP hD hS => ?_)
          try dsimp only at hw
          have hP : va_P (dC, dI) vwCl (wld_X10_free cI cJ cZ h_p0 ad_p0 p0_places p0_steps p0_pastFirst p0_past p0_goings p0_rowSize p0_ways p0_hasField p0_fieldSize p0_faultNow p0_hasTree p0_treeSize p0_weightCount p0_roundCount p0_setCount p0_colour p0_puts p0_sort p0_takes) H := hP
          have hD : va_D A (wld_X10_free cI cJ cZ h_p0 ad_p0 p0_places p0_steps p0_pastFirst p0_past p0_goings p0_rowSize p0_ways p0_hasField p0_fieldSize p0_faultNow p0_hasTree p0_treeSize p0_weightCount p0_roundCount p0_setCount p0_colour p0_puts p0_sort p0_takes) := hD
          refine lv_iconst (v := 1) hx hb dX10_free_66 (by decide) ?_
          refine lv_icmp_ne (tgt := 74) hx hb dX10_free_67 (by decide) (fun c15 => ?_) (fun c16 => ?_)
          · have hw := hw.1 c15
            refine lv_iconst (v := 0) hx hb dX10_free_74 (by decide) ?_
            refine lv_istore (lv' := [(4, .int (0 : Int32)), (3, .int x9), (0, .ref h_p0), (1, .int v1), (2, .int v2), (5, .int v5)]) hx hb dX10_free_75 hl (by decide) rfl (fun ls hl => ?_)
            obtain ⟨x17, ex17⟩ : ∃ y : Int32, y = v5 + (1 : Int32) := ⟨_, rfl⟩
            have hw := hw x17 ex17
            refine lv_iinc (v := x17) (lv' := [(5, .int x17), (4, .int (0 : Int32)), (3, .int x9), (0, .ref h_p0), (1, .int v1), (2, .int v2)]) hx hb dX10_free_77 hl (k := 5) rfl (by rw [ex17]; rfl) (by decide) rfl (fun ls hl => ?_)
            refine lv_goto (tgt := 23) hx hb dX10_free_80 (by decide) ?_
            exact ih _ _ _ hw _ _ _ hP hD hS (lv_sub hl [3, 4, 5, 2, 1, 0] rfl)
          · have hw := hw.2 c16
            refine lv_iconst (v := 1) hx hb dX10_free_70 (by decide) ?_
            refine lv_goto (tgt := 75) hx hb dX10_free_71 (by decide) ?_
            refine lv_istore (lv' := [(4, .int (1 : Int32)), (3, .int x9), (0, .ref h_p0), (1, .int v1), (2, .int v2), (5, .int v5)]) hx hb dX10_free_75 hl (by decide) rfl (fun ls hl => ?_)
            obtain ⟨x18, ex18⟩ : ∃ y : Int32, y = v5 + (1 : Int32) := ⟨_, rfl⟩
            have hw := hw x18 ex18
            refine lv_iinc (v := x18) (lv' := [(5, .int x18), (4, .int (1 : Int32)), (3, .int x9), (0, .ref h_p0), (1, .int v1), (2, .int v2)]) hx hb dX10_free_77 hl (k := 5) rfl (by rw [ex18]; rfl) (by decide) rfl (fun ls hl => ?_)
            refine lv_goto (tgt := 23) hx hb dX10_free_80 (by decide) ?_
            exact ih _ _ _ hw _ _ _ hP hD hS (lv_sub hl [3, 4, 5, 2, 1, 0] rfl)
set_option maxHeartbeats 4000000 in
set_option maxRecDepth 100000 in
theorem c_X10_free_L7 {p : Program} {l : Launch} {e : Env} {s : State} {m : MethodId} {args : Array Value} {below : List Frame} {meth : Method} {c : Code} {dC : Nat → ClassId} {dI : Nat → Nat → Nat} {A : Nat → Prop} {cI cJ cZ : ClassId} {h_p0 : Nat} {ad_p0 : Nat → Nat} {p0_places : Int32} {p0_steps : Int32} {p0_pastFirst : Int32} {p0_past : Int32} {p0_goings : Int32} {p0_rowSize : Int32} {p0_ways : Int32} {p0_hasField : Int32} {p0_fieldSize : Int32} {p0_faultNow : Int32} {p0_hasTree : Int32} {p0_treeSize : Int32} {p0_weightCount : Int32} {p0_roundCount : Int32} {p0_setCount : Int32} {p0_colour : Nat → Int32} {p0_puts : Nat → Int32} {p0_sort : Nat → Int32} {p0_takes : Nat → Int32}  {post : Int32 → Prop} {K : (Int32) → (Int32) → Prop} (E0 : xEnv p s m args meth c cX10_free (some .int) 6 RX10 wsX10_free (dC, dI) cI cJ cZ A) (hk : ∀ (v1 : Int32) (v2 : Int32) (H : Heap) (locs : List Loc) (ls : Array Slot), K v1 v2 → va_P (dC, dI) vwCl (wld_X10_free cI cJ cZ h_p0 ad_p0 p0_places p0_steps p0_pastFirst p0_past p0_goings p0_rowSize p0_ways p0_hasField p0_fieldSize p0_faultNow p0_hasTree p0_treeSize p0_weightCount p0_roundCount p0_setCount p0_colour p0_puts p0_sort p0_takes) H → va_D A (wld_X10_free cI cJ cZ h_p0 ad_p0 p0_places p0_steps p0_pastFirst p0_past p0_goings p0_rowSize p0_ways p0_hasField p0_fieldSize p0_faultNow p0_hasTree p0_treeSize p0_weightCount p0_roundCount p0_setCount p0_colour p0_puts p0_sort p0_takes) → va_S A s.heap H locs → lv_has ls 6 [(1, .int v1)] → W p l e ({ frames := 2, cells := 0, slots := 0, locals := 45 }) s m args below meth c H locs 0 0 (MQ below (q_X10_free dC dI cI cJ cZ h_p0 ad_p0 p0_places p0_steps p0_pastFirst p0_past p0_goings p0_rowSize p0_ways p0_hasField p0_fieldSize p0_faultNow p0_hasTree p0_treeSize p0_weightCount p0_roundCount p0_setCount p0_colour p0_puts p0_sort p0_takes post A) args s 0 0 A) (F0 m 113 ls [])) : ∀ (n : Nat) (v1 : Int32) (v2 : Int32), w_X10_free_L7 p0_places p0_steps p0_colour p0_puts p0_sort p0_takes post K n v1 v2 → ∀ (H : Heap) (locs : List Loc) (ls : Array Slot), va_P (dC, dI) vwCl (wld_X10_free cI cJ cZ h_p0 ad_p0 p0_places p0_steps p0_pastFirst p0_past p0_goings p0_rowSize p0_ways p0_hasField p0_fieldSize p0_faultNow p0_hasTree p0_treeSize p0_weightCount p0_roundCount p0_setCount p0_colour p0_puts p0_sort p0_takes) H → va_D A (wld_X10_free cI cJ cZ h_p0 ad_p0 p0_places p0_steps p0_pastFirst p0_past p0_goings p0_rowSize p0_ways p0_hasField p0_fieldSize p0_faultNow p0_hasTree p0_treeSize p0_weightCount p0_roundCount p0_setCount p0_colour p0_puts p0_sort p0_takes) → va_S A s.heap H locs → lv_has ls 6 [(0, .ref h_p0), (1, .int v1), (2, .int v2)] → W p l e ({ frames := 2, cells := 0, slots := 0, locals := 45 }) s m args below meth c H locs 0 0 (MQ below (q_X10_free dC dI cI cJ cZ h_p0 ad_p0 p0_places p0_steps p0_pastFirst p0_past p0_goings p0_rowSize p0_ways p0_hasField p0_fieldSize p0_faultNow p0_hasTree p0_treeSize p0_weightCount p0_roundCount p0_setCount p0_colour p0_puts p0_sort p0_takes post A) args s 0 0 A) (F0 m 7 ls []) := by
  obtain ⟨hx, hb, hr, hml, hown, hts, hlocks, hK, hA, n1, n2⟩ := id E0
  have iX10 : ∀ w ∈ u_ws RX10 TX10 50, w ∈ wsX10_free := fun w h => List.mem_cons_of_mem _ (List.mem_append_right _ h)
  intro n
  induction n with
  | zero => intro v1 v2 hw; exact hw.elim
  | succ n ih =>
    intro v1 v2 hw H locs ls hP hD hS hl
    have hw : w_X10_free_L7b p0_places p0_steps p0_colour p0_puts p0_sort p0_takes post K (w_X10_free_L7 p0_places p0_steps p0_colour p0_puts p0_sort p0_takes post K n) v1 v2 := hw
    unfold w_X10_free_L7b at hw
    refine lv_iload_n hx hb dX10_free_7 rfl (lv_at hl 2 rfl) ?_
    refine lv_aload_n hx hb dX10_free_8 rfl (lv_at hl 0 rfl) ?_
    refine va_get (D := (dC, dI)) (ci := 10) (v := .int p0_places) (C := RX10) (T := TX10) (N := 50) hx hb hts iX10 hown hK hP 0 rfl rfl 0 (by decide) (hts (.fieldLink RX10 127 "NetHouseModel" "places" "I") (by decide +kernel)) (fun _ h9 => h9) rfl dX10_free_9 ?_
    refine lv_icmp_ge (tgt := 113) hx hb dX10_free_12 (by decide) (fun c2 => ?_) (fun c3 => ?_)
    · have hw := hw.1 c2
      exact hk _ _ _ _ _ hw hP hD hS (lv_sub hl [1] rfl)
    · have hw := hw.2 c3
      refine lv_iconst (v := 0) hx hb dX10_free_15 (by decide) ?_
      refine lv_istore_n (lv' := [(3, .int (0 : Int32)), (0, .ref h_p0), (1, .int v1), (2, .int v2)]) hx hb dX10_free_16 rfl hl (by decide) rfl (fun ls hl => ?_)
      refine lv_iconst (v := 1) hx hb dX10_free_17 (by decide) ?_
      refine lv_istore (lv' := [(4, .int (1 : Int32)), (3, .int (0 : Int32)), (0, .ref h_p0), (1, .int v1), (2, .int v2)]) hx hb dX10_free_18 hl (by decide) rfl (fun ls hl => ?_)
      refine lv_iconst (v := 0) hx hb dX10_free_20 (by decide) ?_
      refine lv_istore (lv' := [(5, .int (0 : Int32)), (4, .int (1 : Int32)), (3, .int (0 : Int32)), (0, .ref h_p0), (1, .int v1), (2, .int v2)]) hx hb dX10_free_21 hl (by decide) rfl (fun ls hl => ?_)
      obtain ⟨n19, hw⟩ := hw
      refine c_X10_free_L23 (l := l)  E0 ?_ n19 _ _ _ hw _ _ _ hP hD hS (lv_sub hl [3, 4, 5, 2, 1, 0] rfl)
      · intro v20 v21 v22 H locs ls hw hP hD hS hl
        have hP : va_P (dC, dI) vwCl (wld_X10_free cI cJ cZ h_p0 ad_p0 p0_places p0_steps p0_pastFirst p0_past p0_goings p0_rowSize p0_ways p0_hasField p0_fieldSize p0_faultNow p0_hasTree p0_treeSize p0_weightCount p0_roundCount p0_setCount p0_colour p0_puts p0_sort p0_takes) H := hP
        have hD : va_D A (wld_X10_free cI cJ cZ h_p0 ad_p0 p0_places p0_steps p0_pastFirst p0_past p0_goings p0_rowSize p0_ways p0_hasField p0_fieldSize p0_faultNow p0_hasTree p0_treeSize p0_weightCount p0_roundCount p0_setCount p0_colour p0_puts p0_sort p0_takes) := hD
        refine lv_iload_n hx hb dX10_free_83 rfl (lv_at hl 1 rfl) ?_
        refine lv_if_eq (tgt := 105) hx hb dX10_free_84 (by decide) (fun c23 => ?_) (fun c24 => ?_)
        · have hw := hw.1 c23
          refine lv_iconst (v := 0) hx hb dX10_free_105 (by decide) ?_
          refine lv_istore_n (lv' := [(1, .int (0 : Int32)), (0, .ref h_p0), (2, .int v2), (3, .int v20), (4, .int v21)]) hx hb dX10_free_106 rfl hl (by decide) rfl (fun ls hl => ?_)
          obtain ⟨x25, ex25⟩ : ∃ y : Int32, y = v2 + (1 : Int32) := ⟨_, rfl⟩
          have hw := hw x25 ex25
          refine lv_iinc (v := x25) (lv' := [(2, .int x25), (1, .int (0 : Int32)), (0, .ref h_p0), (3, .int v20), (4, .int v21)]) hx hb dX10_free_107 hl (k := 2) rfl (by rw [ex25]; rfl) (by decide) rfl (fun ls hl => ?_)
          refine lv_goto (tgt := 7) hx hb dX10_free_110 (by decide) ?_
          exact ih _ _ hw _ _ _ hP hD hS (lv_sub hl [2, 1, 0] rfl)
        · have hw := hw.2 c24
          refine lv_iload_n hx hb dX10_free_87 rfl (lv_at hl 3 rfl) ?_
          refine lv_if_le (tgt := 105) hx hb dX10_free_88 (by decide) (fun c26 => ?_) (fun c27 => ?_)
          · have hw := hw.1 c26
            refine lv_iconst (v := 0) hx hb dX10_free_105 (by decide) ?_
            refine lv_istore_n (lv' := [(1, .int (0 : Int32)), (0, .ref h_p0), (2, .int v2), (3, .int v20), (4, .int v21)]) hx hb dX10_free_106 rfl hl (by decide) rfl (fun ls hl => ?_)
            obtain ⟨x28, ex28⟩ : ∃ y : Int32, y = v2 + (1 : Int32) := ⟨_, rfl⟩
            have hw := hw x28 ex28
            refine lv_iinc (v := x28) (lv' := [(2, .int x28), (1, .int (0 : Int32)), (0, .ref h_p0), (3, .int v20), (4, .int v21)]) hx hb dX10_free_107 hl (k := 2) rfl (by rw [ex28]; rfl) (by decide) rfl (fun ls hl => ?_)
            refine lv_goto (tgt := 7) hx hb dX10_free_110 (by decide) ?_
            exact ih _ _ hw _ _ _ hP hD hS (lv_sub hl [2, 1, 0] rfl)
          · have hw := hw.2 c27
            refine lv_iload_n hx hb dX10_free_91 rfl (lv_at hl 3 rfl) ?_
            refine lv_iconst (v := 1) hx hb dX10_free_92 (by decide) ?_
            refine lv_icmp_eq (tgt := 101) hx hb dX10_free_93 (by decide) (fun c29 => ?_) (fun c30 => ?_)
            · have hw := hw.1 c29
              refine lv_iconst (v := 1) hx hb dX10_free_101 (by decide) ?_
              refine lv_goto (tgt := 106) hx hb dX10_free_102 (by decide) ?_
              refine lv_istore_n (lv' := [(1, .int (1 : Int32)), (0, .ref h_p0), (2, .int v2), (3, .int v20), (4, .int v21)]) hx hb dX10_free_106 rfl hl (by decide) rfl (fun ls hl => ?_)
              obtain ⟨x31, ex31⟩ : ∃ y : Int32, y = v2 + (1 : Int32) := ⟨_, rfl⟩
              have hw := hw x31 ex31
              refine lv_iinc (v := x31) (lv' := [(2, .int x31), (1, .int (1 : Int32)), (0, .ref h_p0), (3, .int v20), (4, .int v21)]) hx hb dX10_free_107 hl (k := 2) rfl (by rw [ex31]; rfl) (by decide) rfl (fun ls hl => ?_)
              refine lv_goto (tgt := 7) hx hb dX10_free_110 (by decide) ?_
              exact ih _ _ hw _ _ _ hP hD hS (lv_sub hl [2, 1, 0] rfl)
            · have hw := hw.2 c30
              refine lv_iload hx hb dX10_free_96 (lv_at hl 4 rfl) ?_
              refine lv_if_eq (tgt := 105) hx hb dX10_free_98 (by decide) (fun c32 => ?_) (fun c33 => ?_)
              · have hw := hw.1 c32
                refine lv_iconst (v := 0) hx hb dX10_free_105 (by decide) ?_
                refine lv_istore_n (lv' := [(1, .int (0 : Int32)), (0, .ref h_p0), (2, .int v2), (3, .int v20), (4, .int v21)]) hx hb dX10_free_106 rfl hl (by decide) rfl (fun ls hl => ?_)
                obtain ⟨x34, ex34⟩ : ∃ y : Int32, y = v2 + (1 : Int32) := ⟨_, rfl⟩
                have hw := hw x34 ex34
                refine lv_iinc (v := x34) (lv' := [(2, .int x34), (1, .int (0 : Int32)), (0, .ref h_p0), (3, .int v20), (4, .int v21)]) hx hb dX10_free_107 hl (k := 2) rfl (by rw [ex34]; rfl) (by decide) rfl (fun ls hl => ?_)
                refine lv_goto (tgt := 7) hx hb dX10_free_110 (by decide) ?_
                exact ih _ _ hw _ _ _ hP hD hS (lv_sub hl [2, 1, 0] rfl)
              · have hw := hw.2 c33
                refine lv_iconst (v := 1) hx hb dX10_free_101 (by decide) ?_
                refine lv_goto (tgt := 106) hx hb dX10_free_102 (by decide) ?_
                refine lv_istore_n (lv' := [(1, .int (1 : Int32)), (0, .ref h_p0), (2, .int v2), (3, .int v20), (4, .int v21)]) hx hb dX10_free_106 rfl hl (by decide) rfl (fun ls hl => ?_)
                obtain ⟨x35, ex35⟩ : ∃ y : Int32, y = v2 + (1 : Int32) := ⟨_, rfl⟩
                have hw := hw x35 ex35
                refine lv_iinc (v := x35) (lv' := [(2, .int x35), (1, .int (1 : Int32)), (0, .ref h_p0), (3, .int v20), (4, .int v21)]) hx hb dX10_free_107 hl (k := 2) rfl (by rw [ex35]; rfl) (by decide) rfl (fun ls hl => ?_)
                refine lv_goto (tgt := 7) hx hb dX10_free_110 (by decide) ?_
                exact ih _ _ hw _ _ _ hP hD hS (lv_sub hl [2, 1, 0] rfl)
set_option maxHeartbeats 4000000 in
set_option maxRecDepth 100000 in
theorem c_X10_free {l : Launch} {dC : Nat → ClassId} {dI : Nat → Nat → Nat} {sz : Nat} {cI cJ cZ : ClassId} {h_p0 : Nat} {ad_p0 : Nat → Nat} {p0_places : Int32} {p0_steps : Int32} {p0_pastFirst : Int32} {p0_past : Int32} {p0_goings : Int32} {p0_rowSize : Int32} {p0_ways : Int32} {p0_hasField : Int32} {p0_fieldSize : Int32} {p0_faultNow : Int32} {p0_hasTree : Int32} {p0_treeSize : Int32} {p0_weightCount : Int32} {p0_roundCount : Int32} {p0_setCount : Int32} {p0_colour : Nat → Int32} {p0_puts : Nat → Int32} {p0_sort : Nat → Int32} {p0_takes : Nat → Int32}  {post : Int32 → Prop} (hw : w_X10_free p0_places p0_steps p0_colour p0_puts p0_sort p0_takes post) : Met l yX10_free wsX10_free ({ frames := 2, cells := 0, slots := 0, locals := 45 }) (va_Pc [.ref h_p0] (xPre (dC, dI) cI cJ cZ (wld_X10_free cI cJ cZ h_p0 ad_p0 p0_places p0_steps p0_pastFirst p0_past p0_goings p0_rowSize p0_ways p0_hasField p0_fieldSize p0_faultNow p0_hasTree p0_treeSize p0_weightCount p0_roundCount p0_setCount p0_colour p0_puts p0_sort p0_takes) sz)) (q_X10_free dC dI cI cJ cZ h_p0 ad_p0 p0_places p0_steps p0_pastFirst p0_past p0_goings p0_rowSize p0_ways p0_hasField p0_fieldSize p0_faultNow p0_hasTree p0_treeSize p0_weightCount p0_roundCount p0_setCount p0_colour p0_puts p0_sort p0_takes post (va_A (wld_X10_free cI cJ cZ h_p0 ad_p0 p0_places p0_steps p0_pastFirst p0_past p0_goings p0_rowSize p0_ways p0_hasField p0_fieldSize p0_faultNow p0_hasTree p0_treeSize p0_weightCount p0_roundCount p0_setCount p0_colour p0_puts p0_sort p0_takes) sz)) 0 0 (va_A (wld_X10_free cI cJ cZ h_p0 ad_p0 p0_places p0_steps p0_pastFirst p0_past p0_goings p0_rowSize p0_ways p0_hasField p0_fieldSize p0_faultNow p0_hasTree p0_treeSize p0_weightCount p0_roundCount p0_setCount p0_colour p0_puts p0_sort p0_takes) sz) := by
  refine x_met (cc := cX10_free) (maxL := 6) (ret := (some .int)) (own := RX10) (Qc := fun A => (q_X10_free dC dI cI cJ cZ h_p0 ad_p0 p0_places p0_steps p0_pastFirst p0_past p0_goings p0_rowSize p0_ways p0_hasField p0_fieldSize p0_faultNow p0_hasTree p0_treeSize p0_weightCount p0_roundCount p0_setCount p0_colour p0_puts p0_sort p0_takes post A)) (by decide) rfl rfl (Nat.le_of_ble_eq_true rfl) ?_
  intro p e s m args below meth c A ls E0 hP hD hS hl
  obtain ⟨hx, hb, hr, hml, hown, hts, hlocks, hK, hA, n1, n2⟩ := id E0
  have iX10 : ∀ w ∈ u_ws RX10 TX10 50, w ∈ wsX10_free := fun w h => List.mem_cons_of_mem _ (List.mem_append_right _ h)
  have hS0 := hS
  have hl : lv_has ls 6 [(0, .ref h_p0)] := hl
  unfold w_X10_free at hw
  obtain ⟨H, hH⟩ : ∃ H, H = s.heap := ⟨_, rfl⟩
  have hS : va_S A s.heap H [] := by rw [hH]; exact hS
  have hP : va_P (dC, dI) vwCl (wld_X10_free cI cJ cZ h_p0 ad_p0 p0_places p0_steps p0_pastFirst p0_past p0_goings p0_rowSize p0_ways p0_hasField p0_fieldSize p0_faultNow p0_hasTree p0_treeSize p0_weightCount p0_roundCount p0_setCount p0_colour p0_puts p0_sort p0_takes) H := by rw [hH]; exact hP
  suffices hG : W p l e ({ frames := 2, cells := 0, slots := 0, locals := 45 }) s m args below meth c H [] 0 0 (MQ below (q_X10_free dC dI cI cJ cZ h_p0 ad_p0 p0_places p0_steps p0_pastFirst p0_past p0_goings p0_rowSize p0_ways p0_hasField p0_fieldSize p0_faultNow p0_hasTree p0_treeSize p0_weightCount p0_roundCount p0_setCount p0_colour p0_puts p0_sort p0_takes post A) args s 0 0 A) (F0 m 0 ls []) by rw [hH] at hG; exact hG
  clear hH
  refine lv_aload_n hx hb dX10_free_0 rfl (lv_at hl 0 rfl) ?_
  obtain ⟨hPc, hDc⟩ := x_sub (wc := (wld_X10_isSimple cI cJ cZ h_p0 ad_p0 p0_places p0_steps p0_pastFirst p0_past p0_goings p0_rowSize p0_ways p0_hasField p0_fieldSize p0_faultNow p0_hasTree p0_treeSize p0_weightCount p0_roundCount p0_setCount p0_colour p0_puts p0_sort p0_takes)) hP hD [0, 1, 2, 3, 4] (n := 5) rfl rfl (by decide +kernel)
  refine x_calli (ws' := fun (u : Unit) => (wld_X10_free cI cJ cZ h_p0 ad_p0 p0_places p0_steps p0_pastFirst p0_past p0_goings p0_rowSize p0_ways p0_hasField p0_fieldSize p0_faultNow p0_hasTree p0_treeSize p0_weightCount p0_roundCount p0_setCount p0_colour p0_puts p0_sort p0_takes)) hP hD hS hA [0, 1, 2, 3, 4] [] [0, 1, 2, 3, 4] (n := 5) (k := 5) rfl (fun _ => rfl) rfl (by decide +kernel) (fun _ => rfl) (va_runV (As := []) (rest := []) ⟨hx, hb, hml, hown, hts⟩ (c_X10_isSimple (l := l) (dC := dC) (dI := dI) (cI := cI) (cJ := cJ) (cZ := cZ) (sz := H.size) (h_p0 := h_p0) (ad_p0 := ad_p0) (p0_places := p0_places) (p0_steps := p0_steps) (p0_pastFirst := p0_pastFirst) (p0_past := p0_past) (p0_goings := p0_goings) (p0_rowSize := p0_rowSize) (p0_ways := p0_ways) (p0_hasField := p0_hasField) (p0_fieldSize := p0_fieldSize) (p0_faultNow := p0_faultNow) (p0_hasTree := p0_hasTree) (p0_treeSize := p0_treeSize) (p0_weightCount := p0_weightCount) (p0_roundCount := p0_roundCount) (p0_setCount := p0_setCount) (p0_colour := p0_colour) (p0_puts := p0_puts) (p0_sort := p0_sort) (p0_takes := p0_takes) hw) (cwV 0 hts gX10_free_X10_isSimple rfl rfl rfl (by decide +kernel) ⟨Nat.le_of_ble_eq_true rfl, Nat.le_of_ble_eq_true rfl⟩) ⟨xPre_blind, va_recv hK hP (ci := 10) (q0 := 0) rfl rfl, xPre_at hK hPc hDc n1 n2⟩ rfl rfl hl.1 rfl (lv_room (Nat.le_of_ble_eq_true rfl)) dX10_free_1 ⟨Nat.zero_le _, Nat.zero_le _⟩) (fun r1 u H locs hw hP hD hS => ?_)
  try dsimp only at hw
  have hP : va_P (dC, dI) vwCl (wld_X10_free cI cJ cZ h_p0 ad_p0 p0_places p0_steps p0_pastFirst p0_past p0_goings p0_rowSize p0_ways p0_hasField p0_fieldSize p0_faultNow p0_hasTree p0_treeSize p0_weightCount p0_roundCount p0_setCount p0_colour p0_puts p0_sort p0_takes) H := hP
  have hD : va_D A (wld_X10_free cI cJ cZ h_p0 ad_p0 p0_places p0_steps p0_pastFirst p0_past p0_goings p0_rowSize p0_ways p0_hasField p0_fieldSize p0_faultNow p0_hasTree p0_treeSize p0_weightCount p0_roundCount p0_setCount p0_colour p0_puts p0_sort p0_takes) := hD
  refine lv_istore_n (lv' := [(1, .int r1), (0, .ref h_p0)]) hx hb dX10_free_4 rfl hl (by decide) rfl (fun ls hl => ?_)
  refine lv_iconst (v := 0) hx hb dX10_free_5 (by decide) ?_
  refine lv_istore_n (lv' := [(2, .int (0 : Int32)), (1, .int r1), (0, .ref h_p0)]) hx hb dX10_free_6 rfl hl (by decide) rfl (fun ls hl => ?_)
  obtain ⟨n36, hw⟩ := hw
  refine c_X10_free_L7 (l := l)  E0 ?_ n36 _ _ hw _ _ _ hP hD hS (lv_sub hl [2, 1, 0] rfl)
  · intro v37 v38 H locs ls hw hP hD hS hl
    have hP : va_P (dC, dI) vwCl (wld_X10_free cI cJ cZ h_p0 ad_p0 p0_places p0_steps p0_pastFirst p0_past p0_goings p0_rowSize p0_ways p0_hasField p0_fieldSize p0_faultNow p0_hasTree p0_treeSize p0_weightCount p0_roundCount p0_setCount p0_colour p0_puts p0_sort p0_takes) H := hP
    have hD : va_D A (wld_X10_free cI cJ cZ h_p0 ad_p0 p0_places p0_steps p0_pastFirst p0_past p0_goings p0_rowSize p0_ways p0_hasField p0_fieldSize p0_faultNow p0_hasTree p0_treeSize p0_weightCount p0_roundCount p0_setCount p0_colour p0_puts p0_sort p0_takes) := hD
    refine lv_iload_n hx hb dX10_free_113 rfl (lv_at hl 0 rfl) ?_
    refine lv_if_eq (tgt := 121) hx hb dX10_free_114 (by decide) (fun c39 => ?_) (fun c40 => ?_)
    · have hw := hw.1 c39
      refine lv_iconst (v := 0) hx hb dX10_free_121 (by decide) ?_
      exact x_iret (w1 := fun (u : Unit) => (wld_X10_free cI cJ cZ h_p0 ad_p0 p0_places p0_steps p0_pastFirst p0_past p0_goings p0_rowSize p0_ways p0_hasField p0_fieldSize p0_faultNow p0_hasTree p0_treeSize p0_weightCount p0_roundCount p0_setCount p0_colour p0_puts p0_sort p0_takes)) hx hb hr hlocks () hw hP hD hS dX10_free_122
    · have hw := hw.2 c40
      refine lv_iconst (v := 1) hx hb dX10_free_117 (by decide) ?_
      refine lv_goto (tgt := 122) hx hb dX10_free_118 (by decide) ?_
      exact x_iret (w1 := fun (u : Unit) => (wld_X10_free cI cJ cZ h_p0 ad_p0 p0_places p0_steps p0_pastFirst p0_past p0_goings p0_rowSize p0_ways p0_hasField p0_fieldSize p0_faultNow p0_hasTree p0_treeSize p0_weightCount p0_roundCount p0_setCount p0_colour p0_puts p0_sort p0_takes)) hx hb hr hlocks () hw hP hD hS dX10_free_122
abbrev wld_X10_holds (cI cJ cZ : ClassId) (h_p0 : Nat) (ad_p0 : Nat → Nat) (p0_places : Int32) (p0_steps : Int32) (p0_pastFirst : Int32) (p0_past : Int32) (p0_goings : Int32) (p0_rowSize : Int32) (p0_ways : Int32) (p0_hasField : Int32) (p0_fieldSize : Int32) (p0_faultNow : Int32) (p0_hasTree : Int32) (p0_treeSize : Int32) (p0_weightCount : Int32) (p0_roundCount : Int32) (p0_setCount : Int32) (p0_has : Nat → Int32) : va_W := [(h_p0, .inr (10, [.int p0_places, .int p0_steps, .ref (ad_p0 2), .ref (ad_p0 3), .ref (ad_p0 4), .ref (ad_p0 5), .ref (ad_p0 6), .ref (ad_p0 7), .ref (ad_p0 8), .ref (ad_p0 9), .ref (ad_p0 10), .ref (ad_p0 11), .ref (ad_p0 12), .ref (ad_p0 13), .ref (ad_p0 14), .int p0_pastFirst, .int p0_past, .int p0_goings, .int p0_rowSize, .ref (ad_p0 19), .ref (ad_p0 20), .int p0_ways, .ref (ad_p0 22), .ref (ad_p0 23), .int p0_hasField, .int p0_fieldSize, .ref (ad_p0 26), .ref (ad_p0 27), .ref (ad_p0 28), .ref (ad_p0 29), .ref (ad_p0 30), .ref (ad_p0 31), .ref (ad_p0 32), .int p0_faultNow, .int p0_hasTree, .int p0_treeSize, .ref (ad_p0 36), .ref (ad_p0 37), .ref (ad_p0 38), .ref (ad_p0 39), .ref (ad_p0 40), .ref (ad_p0 41), .ref (ad_p0 42), .int p0_weightCount, .ref (ad_p0 44), .int p0_roundCount, .ref (ad_p0 46), .int p0_setCount, .ref (ad_p0 48), .ref (ad_p0 49)])), ((ad_p0 10), .inl (cI, 16, .inl p0_has))]
abbrev q_X10_holds (dC : Nat → ClassId) (dI : Nat → Nat → Nat) (cI cJ cZ : ClassId) (h_p0 : Nat) (ad_p0 : Nat → Nat) (p0_places : Int32) (p0_steps : Int32) (p0_pastFirst : Int32) (p0_past : Int32) (p0_goings : Int32) (p0_rowSize : Int32) (p0_ways : Int32) (p0_hasField : Int32) (p0_fieldSize : Int32) (p0_faultNow : Int32) (p0_hasTree : Int32) (p0_treeSize : Int32) (p0_weightCount : Int32) (p0_roundCount : Int32) (p0_setCount : Int32) (p0_has : Nat → Int32) (post : Int32 → Prop) (A : Nat → Prop) : Array Value → State → Outcome → State → Prop := va_Qi (fun r (u : Unit) => post r ) (fun (u : Unit) t => xPost (dC, dI) A (wld_X10_holds cI cJ cZ h_p0 ad_p0 p0_places p0_steps p0_pastFirst p0_past p0_goings p0_rowSize p0_ways p0_hasField p0_fieldSize p0_faultNow p0_hasTree p0_treeSize p0_weightCount p0_roundCount p0_setCount p0_has) t) A
def w_X10_holds_L4b (v1 : Int32) (p0_places : Int32) (p0_has : Nat → Int32) (post : Int32 → Prop) (K : (Int32) → (Int32) → Prop) (rec : (Int32) → (Int32) → Prop) (v2 : Int32) (v3 : Int32) : Prop :=
    (p0_places ≤ v3 →
      K v2 v3) ∧
    (¬ p0_places ≤ v3 →
      (¬ v2 = 0 →
        ∀ x5 : Int32, x5 = v3 + (1 : Int32) →
        rec (1 : Int32) x5) ∧
      (v2 = 0 →
        (¬ ((v1 >>> (v3 &&& 31)) &&& (1 : Int32)) = (1 : Int32) →
          ∀ x8 : Int32, x8 = v3 + (1 : Int32) →
          rec (0 : Int32) x8) ∧
        (((v1 >>> (v3 &&& 31)) &&& (1 : Int32)) = (1 : Int32) →
          vp_in v3 16 ∧
          ((p0_has v3.toNatClampNeg) ≤ 0 →
            ∀ x11 : Int32, x11 = v3 + (1 : Int32) →
            rec (0 : Int32) x11) ∧
          (¬ (p0_has v3.toNatClampNeg) ≤ 0 →
            ∀ x12 : Int32, x12 = v3 + (1 : Int32) →
            rec (1 : Int32) x12))))
def w_X10_holds_L4 (v1 : Int32) (p0_places : Int32) (p0_has : Nat → Int32) (post : Int32 → Prop) (K : (Int32) → (Int32) → Prop) : Nat → (Int32) → (Int32) → Prop
  | 0, _, _ => False
  | n + 1, v2, v3 => w_X10_holds_L4b v1 p0_places p0_has post K (w_X10_holds_L4 v1 p0_places p0_has post K n) v2 v3
def w_X10_holds (p0_places : Int32) (p0_has : Nat → Int32) (a1 : Int32) (post : Int32 → Prop) : Prop :=
  ∃ n : Nat, w_X10_holds_L4 a1 p0_places p0_has post (fun v14 v15 =>
      v14 &&& 1 = v14 ∧
      (post v14)) n (0 : Int32) (0 : Int32)
set_option maxHeartbeats 4000000 in
set_option maxRecDepth 100000 in
theorem c_X10_holds_L4 {p : Program} {l : Launch} {e : Env} {s : State} {m : MethodId} {args : Array Value} {below : List Frame} {meth : Method} {c : Code} {dC : Nat → ClassId} {dI : Nat → Nat → Nat} {A : Nat → Prop} {cI cJ cZ : ClassId} {h_p0 : Nat} {ad_p0 : Nat → Nat} {p0_places : Int32} {p0_steps : Int32} {p0_pastFirst : Int32} {p0_past : Int32} {p0_goings : Int32} {p0_rowSize : Int32} {p0_ways : Int32} {p0_hasField : Int32} {p0_fieldSize : Int32} {p0_faultNow : Int32} {p0_hasTree : Int32} {p0_treeSize : Int32} {p0_weightCount : Int32} {p0_roundCount : Int32} {p0_setCount : Int32} {p0_has : Nat → Int32} {v1 : Int32}  {post : Int32 → Prop} {K : (Int32) → (Int32) → Prop} (E0 : xEnv p s m args meth c cX10_holds (some .boolean) 4 RX10 wsX10_holds (dC, dI) cI cJ cZ A) (hk : ∀ (v2 : Int32) (v3 : Int32) (H : Heap) (locs : List Loc) (ls : Array Slot), K v2 v3 → va_P (dC, dI) vwCl (wld_X10_holds cI cJ cZ h_p0 ad_p0 p0_places p0_steps p0_pastFirst p0_past p0_goings p0_rowSize p0_ways p0_hasField p0_fieldSize p0_faultNow p0_hasTree p0_treeSize p0_weightCount p0_roundCount p0_setCount p0_has) H → va_D A (wld_X10_holds cI cJ cZ h_p0 ad_p0 p0_places p0_steps p0_pastFirst p0_past p0_goings p0_rowSize p0_ways p0_hasField p0_fieldSize p0_faultNow p0_hasTree p0_treeSize p0_weightCount p0_roundCount p0_setCount p0_has) → va_S A s.heap H locs → lv_has ls 4 [(2, .int v2)] → W p l e ({ frames := 0, cells := 0, slots := 0, locals := 0 }) s m args below meth c H locs 0 0 (MQ below (q_X10_holds dC dI cI cJ cZ h_p0 ad_p0 p0_places p0_steps p0_pastFirst p0_past p0_goings p0_rowSize p0_ways p0_hasField p0_fieldSize p0_faultNow p0_hasTree p0_treeSize p0_weightCount p0_roundCount p0_setCount p0_has post A) args s 0 0 A) (F0 m 46 ls [])) : ∀ (n : Nat) (v2 : Int32) (v3 : Int32), w_X10_holds_L4 v1 p0_places p0_has post K n v2 v3 → ∀ (H : Heap) (locs : List Loc) (ls : Array Slot), va_P (dC, dI) vwCl (wld_X10_holds cI cJ cZ h_p0 ad_p0 p0_places p0_steps p0_pastFirst p0_past p0_goings p0_rowSize p0_ways p0_hasField p0_fieldSize p0_faultNow p0_hasTree p0_treeSize p0_weightCount p0_roundCount p0_setCount p0_has) H → va_D A (wld_X10_holds cI cJ cZ h_p0 ad_p0 p0_places p0_steps p0_pastFirst p0_past p0_goings p0_rowSize p0_ways p0_hasField p0_fieldSize p0_faultNow p0_hasTree p0_treeSize p0_weightCount p0_roundCount p0_setCount p0_has) → va_S A s.heap H locs → lv_has ls 4 [(0, .ref h_p0), (1, .int v1), (2, .int v2), (3, .int v3)] → W p l e ({ frames := 0, cells := 0, slots := 0, locals := 0 }) s m args below meth c H locs 0 0 (MQ below (q_X10_holds dC dI cI cJ cZ h_p0 ad_p0 p0_places p0_steps p0_pastFirst p0_past p0_goings p0_rowSize p0_ways p0_hasField p0_fieldSize p0_faultNow p0_hasTree p0_treeSize p0_weightCount p0_roundCount p0_setCount p0_has post A) args s 0 0 A) (F0 m 4 ls []) := by
  obtain ⟨hx, hb, hr, hml, hown, hts, hlocks, hK, hA, n1, n2⟩ := id E0
  have iX10 : ∀ w ∈ u_ws RX10 TX10 50, w ∈ wsX10_holds := fun w h => List.mem_cons_of_mem _ (List.mem_append_right _ h)
  intro n
  induction n with
  | zero => intro v2 v3 hw; exact hw.elim
  | succ n ih =>
    intro v2 v3 hw H locs ls hP hD hS hl
    have hw : w_X10_holds_L4b v1 p0_places p0_has post K (w_X10_holds_L4 v1 p0_places p0_has post K n) v2 v3 := hw
    unfold w_X10_holds_L4b at hw
    refine lv_iload_n hx hb dX10_holds_4 rfl (lv_at hl 3 rfl) ?_
    refine lv_aload_n hx hb dX10_holds_5 rfl (lv_at hl 0 rfl) ?_
    refine va_get (D := (dC, dI)) (ci := 10) (v := .int p0_places) (C := RX10) (T := TX10) (N := 50) hx hb hts iX10 hown hK hP 0 rfl rfl 0 (by decide) (hts (.fieldLink RX10 127 "NetHouseModel" "places" "I") (by decide +kernel)) (fun _ h9 => h9) rfl dX10_holds_6 ?_
    refine lv_icmp_ge (tgt := 46) hx hb dX10_holds_9 (by decide) (fun c1 => ?_) (fun c2 => ?_)
    · have hw := hw.1 c1
      exact hk _ _ _ _ _ hw hP hD hS (lv_sub hl [2] rfl)
    · have hw := hw.2 c2
      refine lv_iload_n hx hb dX10_holds_12 rfl (lv_at hl 2 rfl) ?_
      refine lv_if_ne (tgt := 34) hx hb dX10_holds_13 (by decide) (fun c3 => ?_) (fun c4 => ?_)
      · have hw := hw.1 c3
        refine lv_iconst (v := 1) hx hb dX10_holds_34 (by decide) ?_
        refine lv_goto (tgt := 39) hx hb dX10_holds_35 (by decide) ?_
        refine lv_istore_n (lv' := [(2, .int (1 : Int32)), (0, .ref h_p0), (1, .int v1), (3, .int v3)]) hx hb dX10_holds_39 rfl hl (by decide) rfl (fun ls hl => ?_)
        obtain ⟨x5, ex5⟩ : ∃ y : Int32, y = v3 + (1 : Int32) := ⟨_, rfl⟩
        have hw := hw x5 ex5
        refine lv_iinc (v := x5) (lv' := [(3, .int x5), (2, .int (1 : Int32)), (0, .ref h_p0), (1, .int v1)]) hx hb dX10_holds_40 hl (k := 3) rfl (by rw [ex5]; rfl) (by decide) rfl (fun ls hl => ?_)
        refine lv_goto (tgt := 4) hx hb dX10_holds_43 (by decide) ?_
        exact ih _ _ hw _ _ _ hP hD hS (lv_sub hl [2, 3, 1, 0] rfl)
      · have hw := hw.2 c4
        refine lv_iload_n hx hb dX10_holds_16 rfl (lv_at hl 1 rfl) ?_
        refine lv_iload_n hx hb dX10_holds_17 rfl (lv_at hl 3 rfl) ?_
        refine lv_ishr hx hb dX10_holds_18 ?_
        refine lv_iconst (v := 1) hx hb dX10_holds_19 (by decide) ?_
        refine lv_iand hx hb dX10_holds_20 ?_
        refine lv_iconst (v := 1) hx hb dX10_holds_21 (by decide) ?_
        refine lv_icmp_ne (tgt := 38) hx hb dX10_holds_22 (by decide) (fun c6 => ?_) (fun c7 => ?_)
        · have hw := hw.1 c6
          refine lv_iconst (v := 0) hx hb dX10_holds_38 (by decide) ?_
          refine lv_istore_n (lv' := [(2, .int (0 : Int32)), (0, .ref h_p0), (1, .int v1), (3, .int v3)]) hx hb dX10_holds_39 rfl hl (by decide) rfl (fun ls hl => ?_)
          obtain ⟨x8, ex8⟩ : ∃ y : Int32, y = v3 + (1 : Int32) := ⟨_, rfl⟩
          have hw := hw x8 ex8
          refine lv_iinc (v := x8) (lv' := [(3, .int x8), (2, .int (0 : Int32)), (0, .ref h_p0), (1, .int v1)]) hx hb dX10_holds_40 hl (k := 3) rfl (by rw [ex8]; rfl) (by decide) rfl (fun ls hl => ?_)
          refine lv_goto (tgt := 4) hx hb dX10_holds_43 (by decide) ?_
          exact ih _ _ hw _ _ _ hP hD hS (lv_sub hl [2, 3, 1, 0] rfl)
        · have hw := hw.2 c7
          refine lv_aload_n hx hb dX10_holds_25 rfl (lv_at hl 0 rfl) ?_
          refine va_get (D := (dC, dI)) (ci := 10) (v := .ref (ad_p0 10)) (C := RX10) (T := TX10) (N := 50) hx hb hts iX10 hown hK hP 0 rfl rfl 10 (by decide) (hts (.fieldLink RX10 34 "NetHouseModel" "has" "[I") (by decide +kernel)) (fun _ h9 => h9) rfl dX10_holds_26 ?_
          refine lv_iload_n hx hb dX10_holds_29 rfl (lv_at hl 3 rfl) ?_
          refine va_iald hx hb hK hP 1 0 rfl rfl hw.1 dX10_holds_30 ?_
          have hw := hw.2
          refine lv_if_le (tgt := 38) hx hb dX10_holds_31 (by decide) (fun c9 => ?_) (fun c10 => ?_)
          · have hw := hw.1 c9
            refine lv_iconst (v := 0) hx hb dX10_holds_38 (by decide) ?_
            refine lv_istore_n (lv' := [(2, .int (0 : Int32)), (0, .ref h_p0), (1, .int v1), (3, .int v3)]) hx hb dX10_holds_39 rfl hl (by decide) rfl (fun ls hl => ?_)
            obtain ⟨x11, ex11⟩ : ∃ y : Int32, y = v3 + (1 : Int32) := ⟨_, rfl⟩
            have hw := hw x11 ex11
            refine lv_iinc (v := x11) (lv' := [(3, .int x11), (2, .int (0 : Int32)), (0, .ref h_p0), (1, .int v1)]) hx hb dX10_holds_40 hl (k := 3) rfl (by rw [ex11]; rfl) (by decide) rfl (fun ls hl => ?_)
            refine lv_goto (tgt := 4) hx hb dX10_holds_43 (by decide) ?_
            exact ih _ _ hw _ _ _ hP hD hS (lv_sub hl [2, 3, 1, 0] rfl)
          · have hw := hw.2 c10
            refine lv_iconst (v := 1) hx hb dX10_holds_34 (by decide) ?_
            refine lv_goto (tgt := 39) hx hb dX10_holds_35 (by decide) ?_
            refine lv_istore_n (lv' := [(2, .int (1 : Int32)), (0, .ref h_p0), (1, .int v1), (3, .int v3)]) hx hb dX10_holds_39 rfl hl (by decide) rfl (fun ls hl => ?_)
            obtain ⟨x12, ex12⟩ : ∃ y : Int32, y = v3 + (1 : Int32) := ⟨_, rfl⟩
            have hw := hw x12 ex12
            refine lv_iinc (v := x12) (lv' := [(3, .int x12), (2, .int (1 : Int32)), (0, .ref h_p0), (1, .int v1)]) hx hb dX10_holds_40 hl (k := 3) rfl (by rw [ex12]; rfl) (by decide) rfl (fun ls hl => ?_)
            refine lv_goto (tgt := 4) hx hb dX10_holds_43 (by decide) ?_
            exact ih _ _ hw _ _ _ hP hD hS (lv_sub hl [2, 3, 1, 0] rfl)
set_option maxHeartbeats 4000000 in
set_option maxRecDepth 100000 in
theorem c_X10_holds {l : Launch} {dC : Nat → ClassId} {dI : Nat → Nat → Nat} {sz : Nat} {cI cJ cZ : ClassId} {h_p0 : Nat} {ad_p0 : Nat → Nat} {p0_places : Int32} {p0_steps : Int32} {p0_pastFirst : Int32} {p0_past : Int32} {p0_goings : Int32} {p0_rowSize : Int32} {p0_ways : Int32} {p0_hasField : Int32} {p0_fieldSize : Int32} {p0_faultNow : Int32} {p0_hasTree : Int32} {p0_treeSize : Int32} {p0_weightCount : Int32} {p0_roundCount : Int32} {p0_setCount : Int32} {p0_has : Nat → Int32} {a1 : Int32} {post : Int32 → Prop} (hw : w_X10_holds p0_places p0_has a1 post) : Met l yX10_holds wsX10_holds ({ frames := 0, cells := 0, slots := 0, locals := 0 }) (va_Pc [.ref h_p0, .int a1] (xPre (dC, dI) cI cJ cZ (wld_X10_holds cI cJ cZ h_p0 ad_p0 p0_places p0_steps p0_pastFirst p0_past p0_goings p0_rowSize p0_ways p0_hasField p0_fieldSize p0_faultNow p0_hasTree p0_treeSize p0_weightCount p0_roundCount p0_setCount p0_has) sz)) (q_X10_holds dC dI cI cJ cZ h_p0 ad_p0 p0_places p0_steps p0_pastFirst p0_past p0_goings p0_rowSize p0_ways p0_hasField p0_fieldSize p0_faultNow p0_hasTree p0_treeSize p0_weightCount p0_roundCount p0_setCount p0_has post (va_A (wld_X10_holds cI cJ cZ h_p0 ad_p0 p0_places p0_steps p0_pastFirst p0_past p0_goings p0_rowSize p0_ways p0_hasField p0_fieldSize p0_faultNow p0_hasTree p0_treeSize p0_weightCount p0_roundCount p0_setCount p0_has) sz)) 0 0 (va_A (wld_X10_holds cI cJ cZ h_p0 ad_p0 p0_places p0_steps p0_pastFirst p0_past p0_goings p0_rowSize p0_ways p0_hasField p0_fieldSize p0_faultNow p0_hasTree p0_treeSize p0_weightCount p0_roundCount p0_setCount p0_has) sz) := by
  refine x_met (cc := cX10_holds) (maxL := 4) (ret := (some .boolean)) (own := RX10) (Qc := fun A => (q_X10_holds dC dI cI cJ cZ h_p0 ad_p0 p0_places p0_steps p0_pastFirst p0_past p0_goings p0_rowSize p0_ways p0_hasField p0_fieldSize p0_faultNow p0_hasTree p0_treeSize p0_weightCount p0_roundCount p0_setCount p0_has post A)) (by decide) rfl rfl (Nat.le_of_ble_eq_true rfl) ?_
  intro p e s m args below meth c A ls E0 hP hD hS hl
  obtain ⟨hx, hb, hr, hml, hown, hts, hlocks, hK, hA, n1, n2⟩ := id E0
  have iX10 : ∀ w ∈ u_ws RX10 TX10 50, w ∈ wsX10_holds := fun w h => List.mem_cons_of_mem _ (List.mem_append_right _ h)
  have hS0 := hS
  have hl : lv_has ls 4 [(0, .ref h_p0), (1, .int a1)] := hl
  unfold w_X10_holds at hw
  obtain ⟨H, hH⟩ : ∃ H, H = s.heap := ⟨_, rfl⟩
  have hS : va_S A s.heap H [] := by rw [hH]; exact hS
  have hP : va_P (dC, dI) vwCl (wld_X10_holds cI cJ cZ h_p0 ad_p0 p0_places p0_steps p0_pastFirst p0_past p0_goings p0_rowSize p0_ways p0_hasField p0_fieldSize p0_faultNow p0_hasTree p0_treeSize p0_weightCount p0_roundCount p0_setCount p0_has) H := by rw [hH]; exact hP
  suffices hG : W p l e ({ frames := 0, cells := 0, slots := 0, locals := 0 }) s m args below meth c H [] 0 0 (MQ below (q_X10_holds dC dI cI cJ cZ h_p0 ad_p0 p0_places p0_steps p0_pastFirst p0_past p0_goings p0_rowSize p0_ways p0_hasField p0_fieldSize p0_faultNow p0_hasTree p0_treeSize p0_weightCount p0_roundCount p0_setCount p0_has post A) args s 0 0 A) (F0 m 0 ls []) by rw [hH] at hG; exact hG
  clear hH
  refine lv_iconst (v := 0) hx hb dX10_holds_0 (by decide) ?_
  refine lv_istore_n (lv' := [(2, .int (0 : Int32)), (0, .ref h_p0), (1, .int a1)]) hx hb dX10_holds_1 rfl hl (by decide) rfl (fun ls hl => ?_)
  refine lv_iconst (v := 0) hx hb dX10_holds_2 (by decide) ?_
  refine lv_istore_n (lv' := [(3, .int (0 : Int32)), (2, .int (0 : Int32)), (0, .ref h_p0), (1, .int a1)]) hx hb dX10_holds_3 rfl hl (by decide) rfl (fun ls hl => ?_)
  obtain ⟨n13, hw⟩ := hw
  refine c_X10_holds_L4 (l := l)  E0 ?_ n13 _ _ hw _ _ _ hP hD hS (lv_sub hl [2, 3, 1, 0] rfl)
  · intro v14 v15 H locs ls hw hP hD hS hl
    have hP : va_P (dC, dI) vwCl (wld_X10_holds cI cJ cZ h_p0 ad_p0 p0_places p0_steps p0_pastFirst p0_past p0_goings p0_rowSize p0_ways p0_hasField p0_fieldSize p0_faultNow p0_hasTree p0_treeSize p0_weightCount p0_roundCount p0_setCount p0_has) H := hP
    have hD : va_D A (wld_X10_holds cI cJ cZ h_p0 ad_p0 p0_places p0_steps p0_pastFirst p0_past p0_goings p0_rowSize p0_ways p0_hasField p0_fieldSize p0_faultNow p0_hasTree p0_treeSize p0_weightCount p0_roundCount p0_setCount p0_has) := hD
    refine lv_iload_n hx hb dX10_holds_46 rfl (lv_at hl 0 rfl) ?_
    have hv := hw.1
    have hw := hw.2
    exact x_zret (w1 := fun (u : Unit) => (wld_X10_holds cI cJ cZ h_p0 ad_p0 p0_places p0_steps p0_pastFirst p0_past p0_goings p0_rowSize p0_ways p0_hasField p0_fieldSize p0_faultNow p0_hasTree p0_treeSize p0_weightCount p0_roundCount p0_setCount p0_has)) hx hb hr hlocks hv () hw hP hD hS dX10_holds_47
abbrev wld_X10_bare (cI cJ cZ : ClassId) (h_p0 : Nat) (ad_p0 : Nat → Nat) (p0_places : Int32) (p0_steps : Int32) (p0_pastFirst : Int32) (p0_past : Int32) (p0_goings : Int32) (p0_rowSize : Int32) (p0_ways : Int32) (p0_hasField : Int32) (p0_fieldSize : Int32) (p0_faultNow : Int32) (p0_hasTree : Int32) (p0_treeSize : Int32) (p0_weightCount : Int32) (p0_roundCount : Int32) (p0_setCount : Int32) (p0_answers : Nat → Int32) (p0_askers : Nat → Int32) (p0_has : Nat → Int32) (p0_puts : Nat → Int32) (p0_takes : Nat → Int32) : va_W := [(h_p0, .inr (10, [.int p0_places, .int p0_steps, .ref (ad_p0 2), .ref (ad_p0 3), .ref (ad_p0 4), .ref (ad_p0 5), .ref (ad_p0 6), .ref (ad_p0 7), .ref (ad_p0 8), .ref (ad_p0 9), .ref (ad_p0 10), .ref (ad_p0 11), .ref (ad_p0 12), .ref (ad_p0 13), .ref (ad_p0 14), .int p0_pastFirst, .int p0_past, .int p0_goings, .int p0_rowSize, .ref (ad_p0 19), .ref (ad_p0 20), .int p0_ways, .ref (ad_p0 22), .ref (ad_p0 23), .int p0_hasField, .int p0_fieldSize, .ref (ad_p0 26), .ref (ad_p0 27), .ref (ad_p0 28), .ref (ad_p0 29), .ref (ad_p0 30), .ref (ad_p0 31), .ref (ad_p0 32), .int p0_faultNow, .int p0_hasTree, .int p0_treeSize, .ref (ad_p0 36), .ref (ad_p0 37), .ref (ad_p0 38), .ref (ad_p0 39), .ref (ad_p0 40), .ref (ad_p0 41), .ref (ad_p0 42), .int p0_weightCount, .ref (ad_p0 44), .int p0_roundCount, .ref (ad_p0 46), .int p0_setCount, .ref (ad_p0 48), .ref (ad_p0 49)])), ((ad_p0 49), .inl (cI, 16, .inl p0_answers)), ((ad_p0 48), .inl (cI, 16, .inl p0_askers)), ((ad_p0 10), .inl (cI, 16, .inl p0_has)), ((ad_p0 5), .inl (cI, 256, .inl p0_puts)), ((ad_p0 4), .inl (cI, 256, .inl p0_takes))]
abbrev q_X10_bare (dC : Nat → ClassId) (dI : Nat → Nat → Nat) (cI cJ cZ : ClassId) (h_p0 : Nat) (ad_p0 : Nat → Nat) (p0_places : Int32) (p0_steps : Int32) (p0_pastFirst : Int32) (p0_past : Int32) (p0_goings : Int32) (p0_rowSize : Int32) (p0_ways : Int32) (p0_hasField : Int32) (p0_fieldSize : Int32) (p0_faultNow : Int32) (p0_hasTree : Int32) (p0_treeSize : Int32) (p0_weightCount : Int32) (p0_roundCount : Int32) (p0_setCount : Int32) (p0_answers : Nat → Int32) (p0_askers : Nat → Int32) (p0_has : Nat → Int32) (p0_puts : Nat → Int32) (p0_takes : Nat → Int32) (post : Int32 → (Nat → Int32) → (Nat → Int32) → Prop) (A : Nat → Prop) : Array Value → State → Outcome → State → Prop := va_Qi (fun r (u : (Nat → Int32) × (Nat → Int32)) => post r (u.1) (u.2)) (fun (u : (Nat → Int32) × (Nat → Int32)) t => xPost (dC, dI) A (wld_X10_bare cI cJ cZ h_p0 ad_p0 p0_places p0_steps p0_pastFirst p0_past p0_goings p0_rowSize p0_ways p0_hasField p0_fieldSize p0_faultNow p0_hasTree p0_treeSize p0_weightCount p0_roundCount p0_setCount (u.1) (u.2) p0_has p0_puts p0_takes) t) A
def w_X10_bare_L2b (p0_places : Int32) (p0_steps : Int32) (p0_has : Nat → Int32) (p0_puts : Nat → Int32) (p0_takes : Nat → Int32) (post : Int32 → (Nat → Int32) → (Nat → Int32) → Prop) (K : (Int32) → (Nat → Int32) → (Nat → Int32) → Prop) (rec : (Int32) → (Nat → Int32) → (Nat → Int32) → Prop) (v1 : Int32) (p0_answers : Nat → Int32) (p0_askers : Nat → Int32) : Prop :=
    (((1 : Int32) <<< (p0_places &&& 31)) ≤ v1 →
      K v1 p0_answers p0_askers) ∧
    (¬ ((1 : Int32) <<< (p0_places &&& 31)) ≤ v1 →
      w_X10_readSteps p0_places p0_steps p0_answers p0_askers p0_puts p0_takes (0 : Int32) (fun y3 y4 =>
      w_X10_isLeast p0_places p0_steps y3 y4 v1 (fun r5 =>
      (r5 = 0 →
        ∀ x8 : Int32, x8 = v1 + (1 : Int32) →
        rec x8 y3 y4) ∧
      (¬ r5 = 0 →
        w_X10_readSteps p0_places p0_steps y3 y4 p0_puts p0_takes (1 : Int32) (fun y9 y10 =>
        w_X10_greatestIn p0_steps y9 y10 v1 (fun r11 =>
        w_X10_holds p0_places p0_has r11 (fun r12 =>
        (¬ r12 = 0 →
          ∀ x15 : Int32, x15 = v1 + (1 : Int32) →
          rec x15 y9 y10) ∧
        (r12 = 0 →
          (post v1 y9 y10)))))))))
def w_X10_bare_L2 (p0_places : Int32) (p0_steps : Int32) (p0_has : Nat → Int32) (p0_puts : Nat → Int32) (p0_takes : Nat → Int32) (post : Int32 → (Nat → Int32) → (Nat → Int32) → Prop) (K : (Int32) → (Nat → Int32) → (Nat → Int32) → Prop) : Nat → (Int32) → (Nat → Int32) → (Nat → Int32) → Prop
  | 0, _, _, _ => False
  | n + 1, v1, p0_answers, p0_askers => w_X10_bare_L2b p0_places p0_steps p0_has p0_puts p0_takes post K (w_X10_bare_L2 p0_places p0_steps p0_has p0_puts p0_takes post K n) v1 p0_answers p0_askers
def w_X10_bare (p0_places : Int32) (p0_steps : Int32) (p0_answers : Nat → Int32) (p0_askers : Nat → Int32) (p0_has : Nat → Int32) (p0_puts : Nat → Int32) (p0_takes : Nat → Int32) (post : Int32 → (Nat → Int32) → (Nat → Int32) → Prop) : Prop :=
  ∃ n : Nat, w_X10_bare_L2 p0_places p0_steps p0_has p0_puts p0_takes post (fun v17 s18 s19 =>
      (post (0 : Int32) s18 s19)) n (1 : Int32) p0_answers p0_askers
set_option maxHeartbeats 4000000 in
set_option maxRecDepth 100000 in
theorem c_X10_bare_L2 {p : Program} {l : Launch} {e : Env} {s : State} {m : MethodId} {args : Array Value} {below : List Frame} {meth : Method} {c : Code} {dC : Nat → ClassId} {dI : Nat → Nat → Nat} {A : Nat → Prop} {cI cJ cZ : ClassId} {h_p0 : Nat} {ad_p0 : Nat → Nat} {p0_places : Int32} {p0_steps : Int32} {p0_pastFirst : Int32} {p0_past : Int32} {p0_goings : Int32} {p0_rowSize : Int32} {p0_ways : Int32} {p0_hasField : Int32} {p0_fieldSize : Int32} {p0_faultNow : Int32} {p0_hasTree : Int32} {p0_treeSize : Int32} {p0_weightCount : Int32} {p0_roundCount : Int32} {p0_setCount : Int32} {p0_has : Nat → Int32} {p0_puts : Nat → Int32} {p0_takes : Nat → Int32} {z_p0_answers : Nat → Int32} {z_p0_askers : Nat → Int32} {post : Int32 → (Nat → Int32) → (Nat → Int32) → Prop} {K : (Int32) → (Nat → Int32) → (Nat → Int32) → Prop} (E0 : xEnv p s m args meth c cX10_bare (some .int) 2 RX10 wsX10_bare (dC, dI) cI cJ cZ A) (hk : ∀ (v1 : Int32) (p0_answers : Nat → Int32) (p0_askers : Nat → Int32) (H : Heap) (locs : List Loc) (ls : Array Slot), K v1 p0_answers p0_askers → va_P (dC, dI) vwCl (wld_X10_bare cI cJ cZ h_p0 ad_p0 p0_places p0_steps p0_pastFirst p0_past p0_goings p0_rowSize p0_ways p0_hasField p0_fieldSize p0_faultNow p0_hasTree p0_treeSize p0_weightCount p0_roundCount p0_setCount p0_answers p0_askers p0_has p0_puts p0_takes) H → va_D A (wld_X10_bare cI cJ cZ h_p0 ad_p0 p0_places p0_steps p0_pastFirst p0_past p0_goings p0_rowSize p0_ways p0_hasField p0_fieldSize p0_faultNow p0_hasTree p0_treeSize p0_weightCount p0_roundCount p0_setCount p0_answers p0_askers p0_has p0_puts p0_takes) → va_S A s.heap H locs → lv_has ls 2 [] → W p l e ({ frames := 2, cells := 0, slots := 0, locals := 47 }) s m args below meth c H locs 0 0 (MQ below (q_X10_bare dC dI cI cJ cZ h_p0 ad_p0 p0_places p0_steps p0_pastFirst p0_past p0_goings p0_rowSize p0_ways p0_hasField p0_fieldSize p0_faultNow p0_hasTree p0_treeSize p0_weightCount p0_roundCount p0_setCount z_p0_answers z_p0_askers p0_has p0_puts p0_takes post A) args s 0 0 A) (F0 m 50 ls [])) : ∀ (n : Nat) (v1 : Int32) (p0_answers : Nat → Int32) (p0_askers : Nat → Int32), w_X10_bare_L2 p0_places p0_steps p0_has p0_puts p0_takes post K n v1 p0_answers p0_askers → ∀ (H : Heap) (locs : List Loc) (ls : Array Slot), va_P (dC, dI) vwCl (wld_X10_bare cI cJ cZ h_p0 ad_p0 p0_places p0_steps p0_pastFirst p0_past p0_goings p0_rowSize p0_ways p0_hasField p0_fieldSize p0_faultNow p0_hasTree p0_treeSize p0_weightCount p0_roundCount p0_setCount p0_answers p0_askers p0_has p0_puts p0_takes) H → va_D A (wld_X10_bare cI cJ cZ h_p0 ad_p0 p0_places p0_steps p0_pastFirst p0_past p0_goings p0_rowSize p0_ways p0_hasField p0_fieldSize p0_faultNow p0_hasTree p0_treeSize p0_weightCount p0_roundCount p0_setCount p0_answers p0_askers p0_has p0_puts p0_takes) → va_S A s.heap H locs → lv_has ls 2 [(0, .ref h_p0), (1, .int v1)] → W p l e ({ frames := 2, cells := 0, slots := 0, locals := 47 }) s m args below meth c H locs 0 0 (MQ below (q_X10_bare dC dI cI cJ cZ h_p0 ad_p0 p0_places p0_steps p0_pastFirst p0_past p0_goings p0_rowSize p0_ways p0_hasField p0_fieldSize p0_faultNow p0_hasTree p0_treeSize p0_weightCount p0_roundCount p0_setCount z_p0_answers z_p0_askers p0_has p0_puts p0_takes post A) args s 0 0 A) (F0 m 2 ls []) := by
  obtain ⟨hx, hb, hr, hml, hown, hts, hlocks, hK, hA, n1, n2⟩ := id E0
  have iX10 : ∀ w ∈ u_ws RX10 TX10 50, w ∈ wsX10_bare := fun w h => List.mem_cons_of_mem _ (List.mem_append_right _ h)
  intro n
  induction n with
  | zero => intro v1 p0_answers p0_askers hw; exact hw.elim
  | succ n ih =>
    intro v1 p0_answers p0_askers hw H locs ls hP hD hS hl
    have hw : w_X10_bare_L2b p0_places p0_steps p0_has p0_puts p0_takes post K (w_X10_bare_L2 p0_places p0_steps p0_has p0_puts p0_takes post K n) v1 p0_answers p0_askers := hw
    unfold w_X10_bare_L2b at hw
    refine lv_iload_n hx hb dX10_bare_2 rfl (lv_at hl 1 rfl) ?_
    refine lv_iconst (v := 1) hx hb dX10_bare_3 (by decide) ?_
    refine lv_aload_n hx hb dX10_bare_4 rfl (lv_at hl 0 rfl) ?_
    refine va_get (D := (dC, dI)) (ci := 10) (v := .int p0_places) (C := RX10) (T := TX10) (N := 50) hx hb hts iX10 hown hK hP 0 rfl rfl 0 (by decide) (hts (.fieldLink RX10 127 "NetHouseModel" "places" "I") (by decide +kernel)) (fun _ h9 => h9) rfl dX10_bare_5 ?_
    refine lv_ishl hx hb dX10_bare_8 ?_
    refine lv_icmp_ge (tgt := 50) hx hb dX10_bare_9 (by decide) (fun c1 => ?_) (fun c2 => ?_)
    · have hw := hw.1 c1
      exact hk _ _ _ _ _ _ hw hP hD hS (lv_sub hl [] rfl)
    · have hw := hw.2 c2
      refine lv_aload_n hx hb dX10_bare_12 rfl (lv_at hl 0 rfl) ?_
      refine lv_iconst (v := 0) hx hb dX10_bare_13 (by decide) ?_
      obtain ⟨hPc, hDc⟩ := x_sub (wc := (wld_X10_readSteps cI cJ cZ h_p0 ad_p0 p0_places p0_steps p0_pastFirst p0_past p0_goings p0_rowSize p0_ways p0_hasField p0_fieldSize p0_faultNow p0_hasTree p0_treeSize p0_weightCount p0_roundCount p0_setCount p0_answers p0_askers p0_puts p0_takes)) hP hD [0, 1, 2, 4, 5] (n := 6) rfl rfl (by decide +kernel)
      refine x_callv (ws' := fun (u : (Nat → Int32) × (Nat → Int32)) => (wld_X10_bare cI cJ cZ h_p0 ad_p0 p0_places p0_steps p0_pastFirst p0_past p0_goings p0_rowSize p0_ways p0_hasField p0_fieldSize p0_faultNow p0_hasTree p0_treeSize p0_weightCount p0_roundCount p0_setCount (u.1) (u.2) p0_has p0_puts p0_takes)) hP hD hS hA [0, 1, 2, 4, 5] [3] [1, 2, 3, 0, 4, 5] (n := 6) (k := 5) rfl (fun _ => rfl) rfl (by decide +kernel) (fun _ => rfl) (va_runV (As := [.int (0 : Int32)]) (rest := []) ⟨hx, hb, hml, hown, hts⟩ (c_X10_readSteps (l := l) (dC := dC) (dI := dI) (cI := cI) (cJ := cJ) (cZ := cZ) (sz := H.size) (h_p0 := h_p0) (ad_p0 := ad_p0) (p0_places := p0_places) (p0_steps := p0_steps) (p0_pastFirst := p0_pastFirst) (p0_past := p0_past) (p0_goings := p0_goings) (p0_rowSize := p0_rowSize) (p0_ways := p0_ways) (p0_hasField := p0_hasField) (p0_fieldSize := p0_fieldSize) (p0_faultNow := p0_faultNow) (p0_hasTree := p0_hasTree) (p0_treeSize := p0_treeSize) (p0_weightCount := p0_weightCount) (p0_roundCount := p0_roundCount) (p0_setCount := p0_setCount) (p0_answers := p0_answers) (p0_askers := p0_askers) (p0_puts := p0_puts) (p0_takes := p0_takes) hw) (cwV 1 hts gX10_bare_X10_readSteps rfl rfl rfl (by decide +kernel) ⟨Nat.le_of_ble_eq_true rfl, Nat.le_of_ble_eq_true rfl⟩) ⟨xPre_blind, va_recv hK hP (ci := 10) (q0 := 0) rfl rfl, xPre_at hK hPc hDc n1 n2⟩ rfl rfl hl.1 rfl (lv_room (Nat.le_of_ble_eq_true rfl)) dX10_bare_14 ⟨Nat.zero_le _, Nat.zero_le _⟩) (fun u H locs hw hP hD hS => ?_)
      obtain ⟨y3, y4⟩ := u
      try dsimp only at hw
      have hP : va_P (dC, dI) vwCl (wld_X10_bare cI cJ cZ h_p0 ad_p0 p0_places p0_steps p0_pastFirst p0_past p0_goings p0_rowSize p0_ways p0_hasField p0_fieldSize p0_faultNow p0_hasTree p0_treeSize p0_weightCount p0_roundCount p0_setCount y3 y4 p0_has p0_puts p0_takes) H := hP
      have hD : va_D A (wld_X10_bare cI cJ cZ h_p0 ad_p0 p0_places p0_steps p0_pastFirst p0_past p0_goings p0_rowSize p0_ways p0_hasField p0_fieldSize p0_faultNow p0_hasTree p0_treeSize p0_weightCount p0_roundCount p0_setCount y3 y4 p0_has p0_puts p0_takes) := hD
      refine lv_aload_n hx hb dX10_bare_17 rfl (lv_at hl 0 rfl) ?_
      refine lv_iload_n hx hb dX10_bare_18 rfl (lv_at hl 1 rfl) ?_
      obtain ⟨hPc, hDc⟩ := x_sub (wc := (wld_X10_isLeast cI cJ cZ h_p0 ad_p0 p0_places p0_steps p0_pastFirst p0_past p0_goings p0_rowSize p0_ways p0_hasField p0_fieldSize p0_faultNow p0_hasTree p0_treeSize p0_weightCount p0_roundCount p0_setCount y3 y4)) hP hD [0, 1, 2] (n := 6) rfl rfl (by decide +kernel)
      refine x_calli (ws' := fun (u : Unit) => (wld_X10_bare cI cJ cZ h_p0 ad_p0 p0_places p0_steps p0_pastFirst p0_past p0_goings p0_rowSize p0_ways p0_hasField p0_fieldSize p0_faultNow p0_hasTree p0_treeSize p0_weightCount p0_roundCount p0_setCount y3 y4 p0_has p0_puts p0_takes)) hP hD hS hA [0, 1, 2] [3, 4, 5] [3, 4, 5, 0, 1, 2] (n := 6) (k := 3) rfl (fun _ => rfl) rfl (by decide +kernel) (fun _ => rfl) (va_runV (As := [.int v1]) (rest := []) ⟨hx, hb, hml, hown, hts⟩ (c_X10_isLeast (l := l) (dC := dC) (dI := dI) (cI := cI) (cJ := cJ) (cZ := cZ) (sz := H.size) (h_p0 := h_p0) (ad_p0 := ad_p0) (p0_places := p0_places) (p0_steps := p0_steps) (p0_pastFirst := p0_pastFirst) (p0_past := p0_past) (p0_goings := p0_goings) (p0_rowSize := p0_rowSize) (p0_ways := p0_ways) (p0_hasField := p0_hasField) (p0_fieldSize := p0_fieldSize) (p0_faultNow := p0_faultNow) (p0_hasTree := p0_hasTree) (p0_treeSize := p0_treeSize) (p0_weightCount := p0_weightCount) (p0_roundCount := p0_roundCount) (p0_setCount := p0_setCount) (p0_answers := y3) (p0_askers := y4) hw) (cwV 1 hts gX10_bare_X10_isLeast rfl rfl rfl (by decide +kernel) ⟨Nat.le_of_ble_eq_true rfl, Nat.le_of_ble_eq_true rfl⟩) ⟨xPre_blind, va_recv hK hP (ci := 10) (q0 := 0) rfl rfl, xPre_at hK hPc hDc n1 n2⟩ rfl rfl hl.1 rfl (lv_room (Nat.le_of_ble_eq_true rfl)) dX10_bare_19 ⟨Nat.zero_le _, Nat.zero_le _⟩) (fun r5 u H locs hw hP hD hS => ?_)
      try dsimp only at hw
      have hP : va_P (dC, dI) vwCl (wld_X10_bare cI cJ cZ h_p0 ad_p0 p0_places p0_steps p0_pastFirst p0_past p0_goings p0_rowSize p0_ways p0_hasField p0_fieldSize p0_faultNow p0_hasTree p0_treeSize p0_weightCount p0_roundCount p0_setCount y3 y4 p0_has p0_puts p0_takes) H := hP
      have hD : va_D A (wld_X10_bare cI cJ cZ h_p0 ad_p0 p0_places p0_steps p0_pastFirst p0_past p0_goings p0_rowSize p0_ways p0_hasField p0_fieldSize p0_faultNow p0_hasTree p0_treeSize p0_weightCount p0_roundCount p0_setCount y3 y4 p0_has p0_puts p0_takes) := hD
      refine lv_if_eq (tgt := 44) hx hb dX10_bare_22 (by decide) (fun c6 => ?_) (fun c7 => ?_)
      · have hw := hw.1 c6
        obtain ⟨x8, ex8⟩ : ∃ y : Int32, y = v1 + (1 : Int32) := ⟨_, rfl⟩
        have hw := hw x8 ex8
        refine lv_iinc (v := x8) (lv' := [(1, .int x8), (0, .ref h_p0)]) hx hb dX10_bare_44 hl (k := 1) rfl (by rw [ex8]; rfl) (by decide) rfl (fun ls hl => ?_)
        refine lv_goto (tgt := 2) hx hb dX10_bare_47 (by decide) ?_
        exact ih _ _ _ hw _ _ _ hP hD hS (lv_sub hl [1, 0] rfl)
      · have hw := hw.2 c7
        refine lv_aload_n hx hb dX10_bare_25 rfl (lv_at hl 0 rfl) ?_
        refine lv_iconst (v := 1) hx hb dX10_bare_26 (by decide) ?_
        obtain ⟨hPc, hDc⟩ := x_sub (wc := (wld_X10_readSteps cI cJ cZ h_p0 ad_p0 p0_places p0_steps p0_pastFirst p0_past p0_goings p0_rowSize p0_ways p0_hasField p0_fieldSize p0_faultNow p0_hasTree p0_treeSize p0_weightCount p0_roundCount p0_setCount y3 y4 p0_puts p0_takes)) hP hD [0, 1, 2, 4, 5] (n := 6) rfl rfl (by decide +kernel)
        refine x_callv (ws' := fun (u : (Nat → Int32) × (Nat → Int32)) => (wld_X10_bare cI cJ cZ h_p0 ad_p0 p0_places p0_steps p0_pastFirst p0_past p0_goings p0_rowSize p0_ways p0_hasField p0_fieldSize p0_faultNow p0_hasTree p0_treeSize p0_weightCount p0_roundCount p0_setCount (u.1) (u.2) p0_has p0_puts p0_takes)) hP hD hS hA [0, 1, 2, 4, 5] [3] [1, 2, 3, 0, 4, 5] (n := 6) (k := 5) rfl (fun _ => rfl) rfl (by decide +kernel) (fun _ => rfl) (va_runV (As := [.int (1 : Int32)]) (rest := []) ⟨hx, hb, hml, hown, hts⟩ (c_X10_readSteps (l := l) (dC := dC) (dI := dI) (cI := cI) (cJ := cJ) (cZ := cZ) (sz := H.size) (h_p0 := h_p0) (ad_p0 := ad_p0) (p0_places := p0_places) (p0_steps := p0_steps) (p0_pastFirst := p0_pastFirst) (p0_past := p0_past) (p0_goings := p0_goings) (p0_rowSize := p0_rowSize) (p0_ways := p0_ways) (p0_hasField := p0_hasField) (p0_fieldSize := p0_fieldSize) (p0_faultNow := p0_faultNow) (p0_hasTree := p0_hasTree) (p0_treeSize := p0_treeSize) (p0_weightCount := p0_weightCount) (p0_roundCount := p0_roundCount) (p0_setCount := p0_setCount) (p0_answers := y3) (p0_askers := y4) (p0_puts := p0_puts) (p0_takes := p0_takes) hw) (cwV 1 hts gX10_bare_X10_readSteps rfl rfl rfl (by decide +kernel) ⟨Nat.le_of_ble_eq_true rfl, Nat.le_of_ble_eq_true rfl⟩) ⟨xPre_blind, va_recv hK hP (ci := 10) (q0 := 0) rfl rfl, xPre_at hK hPc hDc n1 n2⟩ rfl rfl hl.1 rfl (lv_room (Nat.le_of_ble_eq_true rfl)) dX10_bare_27 ⟨Nat.zero_le _, Nat.zero_le _⟩) (fun u H locs hw hP hD hS => ?_)
        obtain ⟨y9, y10⟩ := u
        try dsimp only at hw
        have hP : va_P (dC, dI) vwCl (wld_X10_bare cI cJ cZ h_p0 ad_p0 p0_places p0_steps p0_pastFirst p0_past p0_goings p0_rowSize p0_ways p0_hasField p0_fieldSize p0_faultNow p0_hasTree p0_treeSize p0_weightCount p0_roundCount p0_setCount y9 y10 p0_has p0_puts p0_takes) H := hP
        have hD : va_D A (wld_X10_bare cI cJ cZ h_p0 ad_p0 p0_places p0_steps p0_pastFirst p0_past p0_goings p0_rowSize p0_ways p0_hasField p0_fieldSize p0_faultNow p0_hasTree p0_treeSize p0_weightCount p0_roundCount p0_setCount y9 y10 p0_has p0_puts p0_takes) := hD
        refine lv_aload_n hx hb dX10_bare_30 rfl (lv_at hl 0 rfl) ?_
        refine lv_aload_n hx hb dX10_bare_31 rfl (lv_at hl 0 rfl) ?_
        refine lv_iload_n hx hb dX10_bare_32 rfl (lv_at hl 1 rfl) ?_
        obtain ⟨hPc, hDc⟩ := x_sub (wc := (wld_X10_greatestIn cI cJ cZ h_p0 ad_p0 p0_places p0_steps p0_pastFirst p0_past p0_goings p0_rowSize p0_ways p0_hasField p0_fieldSize p0_faultNow p0_hasTree p0_treeSize p0_weightCount p0_roundCount p0_setCount y9 y10)) hP hD [0, 1, 2] (n := 6) rfl rfl (by decide +kernel)
        refine x_calli (ws' := fun (u : Unit) => (wld_X10_bare cI cJ cZ h_p0 ad_p0 p0_places p0_steps p0_pastFirst p0_past p0_goings p0_rowSize p0_ways p0_hasField p0_fieldSize p0_faultNow p0_hasTree p0_treeSize p0_weightCount p0_roundCount p0_setCount y9 y10 p0_has p0_puts p0_takes)) hP hD hS hA [0, 1, 2] [3, 4, 5] [3, 4, 5, 0, 1, 2] (n := 6) (k := 3) rfl (fun _ => rfl) rfl (by decide +kernel) (fun _ => rfl) (va_runV (As := [.int v1]) (rest := [.ref h_p0]) ⟨hx, hb, hml, hown, hts⟩ (c_X10_greatestIn (l := l) (dC := dC) (dI := dI) (cI := cI) (cJ := cJ) (cZ := cZ) (sz := H.size) (h_p0 := h_p0) (ad_p0 := ad_p0) (p0_places := p0_places) (p0_steps := p0_steps) (p0_pastFirst := p0_pastFirst) (p0_past := p0_past) (p0_goings := p0_goings) (p0_rowSize := p0_rowSize) (p0_ways := p0_ways) (p0_hasField := p0_hasField) (p0_fieldSize := p0_fieldSize) (p0_faultNow := p0_faultNow) (p0_hasTree := p0_hasTree) (p0_treeSize := p0_treeSize) (p0_weightCount := p0_weightCount) (p0_roundCount := p0_roundCount) (p0_setCount := p0_setCount) (p0_answers := y9) (p0_askers := y10) hw) (cwV 1 hts gX10_bare_X10_greatestIn rfl rfl rfl (by decide +kernel) ⟨Nat.le_of_ble_eq_true rfl, Nat.le_of_ble_eq_true rfl⟩) ⟨xPre_blind, va_recv hK hP (ci := 10) (q0 := 0) rfl rfl, xPre_at hK hPc hDc n1 n2⟩ rfl rfl hl.1 rfl (lv_room (Nat.le_of_ble_eq_true rfl)) dX10_bare_33 ⟨Nat.zero_le _, Nat.zero_le _⟩) (fun r11 u H locs hw hP hD hS => ?_)
        try dsimp only at hw
        have hP : va_P (dC, dI) vwCl (wld_X10_bare cI cJ cZ h_p0 ad_p0 p0_places p0_steps p0_pastFirst p0_past p0_goings p0_rowSize p0_ways p0_hasField p0_fieldSize p0_faultNow p0_hasTree p0_treeSize p0_weightCount p0_roundCount p0_setCount y9 y10 p0_has p0_puts p0_takes) H := hP
        have hD : va_D A (wld_X10_bare cI cJ cZ h_p0 ad_p0 p0_places p0_steps p0_pastFirst p0_past p0_goings p0_rowSize p0_ways p0_hasField p0_fieldSize p0_faultNow p0_hasTree p0_treeSize p0_weightCount p0_roundCount p0_setCount y9 y10 p0_has p0_puts p0_takes) := hD
        obtain ⟨hPc, hDc⟩ := x_sub (wc := (wld_X10_holds cI cJ cZ h_p0 ad_p0 p0_places p0_steps p0_pastFirst p0_past p0_goings p0_rowSize p0_ways p0_hasField p0_fieldSize p0_faultNow p0_hasTree p0_treeSize p0_weightCount p0_roundCount p0_setCount p0_has)) hP hD [0, 3] (n := 6) rfl rfl (by decide +kernel)
        refine x_calli (ws' := fun (u : Unit) => (wld_X10_bare cI cJ cZ h_p0 ad_p0 p0_places p0_steps p0_pastFirst p0_past p0_goings p0_rowSize p0_ways p0_hasField p0_fieldSize p0_faultNow p0_hasTree p0_treeSize p0_weightCount p0_roundCount p0_setCount y9 y10 p0_has p0_puts p0_takes)) hP hD hS hA [0, 3] [1, 2, 4, 5] [4, 0, 1, 5, 2, 3] (n := 6) (k := 2) rfl (fun _ => rfl) rfl (by decide +kernel) (fun _ => rfl) (va_runV (As := [.int r11]) (rest := []) ⟨hx, hb, hml, hown, hts⟩ (c_X10_holds (l := l) (dC := dC) (dI := dI) (cI := cI) (cJ := cJ) (cZ := cZ) (sz := H.size) (h_p0 := h_p0) (ad_p0 := ad_p0) (p0_places := p0_places) (p0_steps := p0_steps) (p0_pastFirst := p0_pastFirst) (p0_past := p0_past) (p0_goings := p0_goings) (p0_rowSize := p0_rowSize) (p0_ways := p0_ways) (p0_hasField := p0_hasField) (p0_fieldSize := p0_fieldSize) (p0_faultNow := p0_faultNow) (p0_hasTree := p0_hasTree) (p0_treeSize := p0_treeSize) (p0_weightCount := p0_weightCount) (p0_roundCount := p0_roundCount) (p0_setCount := p0_setCount) (p0_has := p0_has) hw) (cwV 1 hts gX10_bare_X10_holds rfl rfl rfl (by decide +kernel) ⟨Nat.le_of_ble_eq_true rfl, Nat.le_of_ble_eq_true rfl⟩) ⟨xPre_blind, va_recv hK hP (ci := 10) (q0 := 0) rfl rfl, xPre_at hK hPc hDc n1 n2⟩ rfl rfl hl.1 rfl (lv_room (Nat.le_of_ble_eq_true rfl)) dX10_bare_36 ⟨Nat.zero_le _, Nat.zero_le _⟩) (fun r12 u H locs hw hP hD hS => ?_)
        try dsimp only at hw
        have hP : va_P (dC, dI) vwCl (wld_X10_bare cI cJ cZ h_p0 ad_p0 p0_places p0_steps p0_pastFirst p0_past p0_goings p0_rowSize p0_ways p0_hasField p0_fieldSize p0_faultNow p0_hasTree p0_treeSize p0_weightCount p0_roundCount p0_setCount y9 y10 p0_has p0_puts p0_takes) H := hP
        have hD : va_D A (wld_X10_bare cI cJ cZ h_p0 ad_p0 p0_places p0_steps p0_pastFirst p0_past p0_goings p0_rowSize p0_ways p0_hasField p0_fieldSize p0_faultNow p0_hasTree p0_treeSize p0_weightCount p0_roundCount p0_setCount y9 y10 p0_has p0_puts p0_takes) := hD
        refine lv_if_ne (tgt := 44) hx hb dX10_bare_39 (by decide) (fun c13 => ?_) (fun c14 => ?_)
        · have hw := hw.1 c13
          obtain ⟨x15, ex15⟩ : ∃ y : Int32, y = v1 + (1 : Int32) := ⟨_, rfl⟩
          have hw := hw x15 ex15
          refine lv_iinc (v := x15) (lv' := [(1, .int x15), (0, .ref h_p0)]) hx hb dX10_bare_44 hl (k := 1) rfl (by rw [ex15]; rfl) (by decide) rfl (fun ls hl => ?_)
          refine lv_goto (tgt := 2) hx hb dX10_bare_47 (by decide) ?_
          exact ih _ _ _ hw _ _ _ hP hD hS (lv_sub hl [1, 0] rfl)
        · have hw := hw.2 c14
          refine lv_iload_n hx hb dX10_bare_42 rfl (lv_at hl 1 rfl) ?_
          exact x_iret (w1 := fun (u : (Nat → Int32) × (Nat → Int32)) => (wld_X10_bare cI cJ cZ h_p0 ad_p0 p0_places p0_steps p0_pastFirst p0_past p0_goings p0_rowSize p0_ways p0_hasField p0_fieldSize p0_faultNow p0_hasTree p0_treeSize p0_weightCount p0_roundCount p0_setCount (u.1) (u.2) p0_has p0_puts p0_takes)) hx hb hr hlocks (y9, y10) hw hP hD hS dX10_bare_43
set_option maxHeartbeats 4000000 in
set_option maxRecDepth 100000 in
theorem c_X10_bare {l : Launch} {dC : Nat → ClassId} {dI : Nat → Nat → Nat} {sz : Nat} {cI cJ cZ : ClassId} {h_p0 : Nat} {ad_p0 : Nat → Nat} {p0_places : Int32} {p0_steps : Int32} {p0_pastFirst : Int32} {p0_past : Int32} {p0_goings : Int32} {p0_rowSize : Int32} {p0_ways : Int32} {p0_hasField : Int32} {p0_fieldSize : Int32} {p0_faultNow : Int32} {p0_hasTree : Int32} {p0_treeSize : Int32} {p0_weightCount : Int32} {p0_roundCount : Int32} {p0_setCount : Int32} {p0_answers : Nat → Int32} {p0_askers : Nat → Int32} {p0_has : Nat → Int32} {p0_puts : Nat → Int32} {p0_takes : Nat → Int32}  {post : Int32 → (Nat → Int32) → (Nat → Int32) → Prop} (hw : w_X10_bare p0_places p0_steps p0_answers p0_askers p0_has p0_puts p0_takes post) : Met l yX10_bare wsX10_bare ({ frames := 2, cells := 0, slots := 0, locals := 47 }) (va_Pc [.ref h_p0] (xPre (dC, dI) cI cJ cZ (wld_X10_bare cI cJ cZ h_p0 ad_p0 p0_places p0_steps p0_pastFirst p0_past p0_goings p0_rowSize p0_ways p0_hasField p0_fieldSize p0_faultNow p0_hasTree p0_treeSize p0_weightCount p0_roundCount p0_setCount p0_answers p0_askers p0_has p0_puts p0_takes) sz)) (q_X10_bare dC dI cI cJ cZ h_p0 ad_p0 p0_places p0_steps p0_pastFirst p0_past p0_goings p0_rowSize p0_ways p0_hasField p0_fieldSize p0_faultNow p0_hasTree p0_treeSize p0_weightCount p0_roundCount p0_setCount p0_answers p0_askers p0_has p0_puts p0_takes post (va_A (wld_X10_bare cI cJ cZ h_p0 ad_p0 p0_places p0_steps p0_pastFirst p0_past p0_goings p0_rowSize p0_ways p0_hasField p0_fieldSize p0_faultNow p0_hasTree p0_treeSize p0_weightCount p0_roundCount p0_setCount p0_answers p0_askers p0_has p0_puts p0_takes) sz)) 0 0 (va_A (wld_X10_bare cI cJ cZ h_p0 ad_p0 p0_places p0_steps p0_pastFirst p0_past p0_goings p0_rowSize p0_ways p0_hasField p0_fieldSize p0_faultNow p0_hasTree p0_treeSize p0_weightCount p0_roundCount p0_setCount p0_answers p0_askers p0_has p0_puts p0_takes) sz) := by
  refine x_met (cc := cX10_bare) (maxL := 2) (ret := (some .int)) (own := RX10) (Qc := fun A => (q_X10_bare dC dI cI cJ cZ h_p0 ad_p0 p0_places p0_steps p0_pastFirst p0_past p0_goings p0_rowSize p0_ways p0_hasField p0_fieldSize p0_faultNow p0_hasTree p0_treeSize p0_weightCount p0_roundCount p0_setCount p0_answers p0_askers p0_has p0_puts p0_takes post A)) (by decide) rfl rfl (Nat.le_of_ble_eq_true rfl) ?_
  intro p e s m args below meth c A ls E0 hP hD hS hl
  obtain ⟨hx, hb, hr, hml, hown, hts, hlocks, hK, hA, n1, n2⟩ := id E0
  have iX10 : ∀ w ∈ u_ws RX10 TX10 50, w ∈ wsX10_bare := fun w h => List.mem_cons_of_mem _ (List.mem_append_right _ h)
  have hS0 := hS
  have hl : lv_has ls 2 [(0, .ref h_p0)] := hl
  unfold w_X10_bare at hw
  obtain ⟨H, hH⟩ : ∃ H, H = s.heap := ⟨_, rfl⟩
  have hS : va_S A s.heap H [] := by rw [hH]; exact hS
  have hP : va_P (dC, dI) vwCl (wld_X10_bare cI cJ cZ h_p0 ad_p0 p0_places p0_steps p0_pastFirst p0_past p0_goings p0_rowSize p0_ways p0_hasField p0_fieldSize p0_faultNow p0_hasTree p0_treeSize p0_weightCount p0_roundCount p0_setCount p0_answers p0_askers p0_has p0_puts p0_takes) H := by rw [hH]; exact hP
  suffices hG : W p l e ({ frames := 2, cells := 0, slots := 0, locals := 47 }) s m args below meth c H [] 0 0 (MQ below (q_X10_bare dC dI cI cJ cZ h_p0 ad_p0 p0_places p0_steps p0_pastFirst p0_past p0_goings p0_rowSize p0_ways p0_hasField p0_fieldSize p0_faultNow p0_hasTree p0_treeSize p0_weightCount p0_roundCount p0_setCount p0_answers p0_askers p0_has p0_puts p0_takes post A) args s 0 0 A) (F0 m 0 ls []) by rw [hH] at hG; exact hG
  clear hH
  refine lv_iconst (v := 1) hx hb dX10_bare_0 (by decide) ?_
  refine lv_istore_n (lv' := [(1, .int (1 : Int32)), (0, .ref h_p0)]) hx hb dX10_bare_1 rfl hl (by decide) rfl (fun ls hl => ?_)
  obtain ⟨n16, hw⟩ := hw
  refine c_X10_bare_L2 (l := l) (z_p0_answers := p0_answers) (z_p0_askers := p0_askers) E0 ?_ n16 _ _ _ hw _ _ _ hP hD hS (lv_sub hl [1, 0] rfl)
  · intro v17 s18 s19 H locs ls hw hP hD hS hl
    have hP : va_P (dC, dI) vwCl (wld_X10_bare cI cJ cZ h_p0 ad_p0 p0_places p0_steps p0_pastFirst p0_past p0_goings p0_rowSize p0_ways p0_hasField p0_fieldSize p0_faultNow p0_hasTree p0_treeSize p0_weightCount p0_roundCount p0_setCount s18 s19 p0_has p0_puts p0_takes) H := hP
    have hD : va_D A (wld_X10_bare cI cJ cZ h_p0 ad_p0 p0_places p0_steps p0_pastFirst p0_past p0_goings p0_rowSize p0_ways p0_hasField p0_fieldSize p0_faultNow p0_hasTree p0_treeSize p0_weightCount p0_roundCount p0_setCount s18 s19 p0_has p0_puts p0_takes) := hD
    refine lv_iconst (v := 0) hx hb dX10_bare_50 (by decide) ?_
    exact x_iret (w1 := fun (u : (Nat → Int32) × (Nat → Int32)) => (wld_X10_bare cI cJ cZ h_p0 ad_p0 p0_places p0_steps p0_pastFirst p0_past p0_goings p0_rowSize p0_ways p0_hasField p0_fieldSize p0_faultNow p0_hasTree p0_treeSize p0_weightCount p0_roundCount p0_setCount (u.1) (u.2) p0_has p0_puts p0_takes)) hx hb hr hlocks (s18, s19) hw hP hD hS dX10_bare_51
abbrev wld_X10_count (cI cJ cZ : ClassId) (h_p0 : Nat) (ad_p0 : Nat → Nat) (p0_places : Int32) (p0_steps : Int32) (p0_pastFirst : Int32) (p0_past : Int32) (p0_goings : Int32) (p0_rowSize : Int32) (p0_ways : Int32) (p0_hasField : Int32) (p0_fieldSize : Int32) (p0_faultNow : Int32) (p0_hasTree : Int32) (p0_treeSize : Int32) (p0_weightCount : Int32) (p0_roundCount : Int32) (p0_setCount : Int32) : va_W := [(h_p0, .inr (10, [.int p0_places, .int p0_steps, .ref (ad_p0 2), .ref (ad_p0 3), .ref (ad_p0 4), .ref (ad_p0 5), .ref (ad_p0 6), .ref (ad_p0 7), .ref (ad_p0 8), .ref (ad_p0 9), .ref (ad_p0 10), .ref (ad_p0 11), .ref (ad_p0 12), .ref (ad_p0 13), .ref (ad_p0 14), .int p0_pastFirst, .int p0_past, .int p0_goings, .int p0_rowSize, .ref (ad_p0 19), .ref (ad_p0 20), .int p0_ways, .ref (ad_p0 22), .ref (ad_p0 23), .int p0_hasField, .int p0_fieldSize, .ref (ad_p0 26), .ref (ad_p0 27), .ref (ad_p0 28), .ref (ad_p0 29), .ref (ad_p0 30), .ref (ad_p0 31), .ref (ad_p0 32), .int p0_faultNow, .int p0_hasTree, .int p0_treeSize, .ref (ad_p0 36), .ref (ad_p0 37), .ref (ad_p0 38), .ref (ad_p0 39), .ref (ad_p0 40), .ref (ad_p0 41), .ref (ad_p0 42), .int p0_weightCount, .ref (ad_p0 44), .int p0_roundCount, .ref (ad_p0 46), .int p0_setCount, .ref (ad_p0 48), .ref (ad_p0 49)]))]
abbrev q_X10_count (dC : Nat → ClassId) (dI : Nat → Nat → Nat) (cI cJ cZ : ClassId) (h_p0 : Nat) (ad_p0 : Nat → Nat) (p0_places : Int32) (p0_steps : Int32) (p0_pastFirst : Int32) (p0_past : Int32) (p0_goings : Int32) (p0_rowSize : Int32) (p0_ways : Int32) (p0_hasField : Int32) (p0_fieldSize : Int32) (p0_faultNow : Int32) (p0_hasTree : Int32) (p0_treeSize : Int32) (p0_weightCount : Int32) (p0_roundCount : Int32) (p0_setCount : Int32) (post : Int32 → Prop) (A : Nat → Prop) : Array Value → State → Outcome → State → Prop := va_Qi (fun r (u : Unit) => post r ) (fun (u : Unit) t => xPost (dC, dI) A (wld_X10_count cI cJ cZ h_p0 ad_p0 p0_places p0_steps p0_pastFirst p0_past p0_goings p0_rowSize p0_ways p0_hasField p0_fieldSize p0_faultNow p0_hasTree p0_treeSize p0_weightCount p0_roundCount p0_setCount) t) A
def w_X10_count (p0_fieldSize : Int32) (p0_goings : Int32) (p0_past : Int32) (p0_places : Int32) (p0_roundCount : Int32) (p0_rowSize : Int32) (p0_setCount : Int32) (p0_steps : Int32) (p0_treeSize : Int32) (p0_ways : Int32) (p0_weightCount : Int32) (a1 : Int32) (post : Int32 → Prop) : Prop :=
  ((a1.toInt < 0 ∨ 10 < a1.toInt) →
    (post (-2000000001 : Int32))) ∧
  (a1 = (0 : Int32) →
    (post p0_places)) ∧
  (a1 = (1 : Int32) →
    (post p0_steps)) ∧
  (a1 = (2 : Int32) →
    (post p0_past)) ∧
  (a1 = (3 : Int32) →
    (post p0_goings)) ∧
  (a1 = (4 : Int32) →
    (post p0_rowSize)) ∧
  (a1 = (5 : Int32) →
    (post p0_ways)) ∧
  (a1 = (6 : Int32) →
    (post p0_fieldSize)) ∧
  (a1 = (7 : Int32) →
    (post p0_treeSize)) ∧
  (a1 = (8 : Int32) →
    (post p0_weightCount)) ∧
  (a1 = (9 : Int32) →
    (post p0_roundCount)) ∧
  (a1 = (10 : Int32) →
    (post p0_setCount))
set_option maxHeartbeats 4000000 in
set_option maxRecDepth 100000 in
theorem c_X10_count {l : Launch} {dC : Nat → ClassId} {dI : Nat → Nat → Nat} {sz : Nat} {cI cJ cZ : ClassId} {h_p0 : Nat} {ad_p0 : Nat → Nat} {p0_places : Int32} {p0_steps : Int32} {p0_pastFirst : Int32} {p0_past : Int32} {p0_goings : Int32} {p0_rowSize : Int32} {p0_ways : Int32} {p0_hasField : Int32} {p0_fieldSize : Int32} {p0_faultNow : Int32} {p0_hasTree : Int32} {p0_treeSize : Int32} {p0_weightCount : Int32} {p0_roundCount : Int32} {p0_setCount : Int32} {a1 : Int32} {post : Int32 → Prop} (hw : w_X10_count p0_fieldSize p0_goings p0_past p0_places p0_roundCount p0_rowSize p0_setCount p0_steps p0_treeSize p0_ways p0_weightCount a1 post) : Met l yX10_count wsX10_count ({ frames := 0, cells := 0, slots := 0, locals := 0 }) (va_Pc [.ref h_p0, .int a1] (xPre (dC, dI) cI cJ cZ (wld_X10_count cI cJ cZ h_p0 ad_p0 p0_places p0_steps p0_pastFirst p0_past p0_goings p0_rowSize p0_ways p0_hasField p0_fieldSize p0_faultNow p0_hasTree p0_treeSize p0_weightCount p0_roundCount p0_setCount) sz)) (q_X10_count dC dI cI cJ cZ h_p0 ad_p0 p0_places p0_steps p0_pastFirst p0_past p0_goings p0_rowSize p0_ways p0_hasField p0_fieldSize p0_faultNow p0_hasTree p0_treeSize p0_weightCount p0_roundCount p0_setCount post (va_A (wld_X10_count cI cJ cZ h_p0 ad_p0 p0_places p0_steps p0_pastFirst p0_past p0_goings p0_rowSize p0_ways p0_hasField p0_fieldSize p0_faultNow p0_hasTree p0_treeSize p0_weightCount p0_roundCount p0_setCount) sz)) 0 0 (va_A (wld_X10_count cI cJ cZ h_p0 ad_p0 p0_places p0_steps p0_pastFirst p0_past p0_goings p0_rowSize p0_ways p0_hasField p0_fieldSize p0_faultNow p0_hasTree p0_treeSize p0_weightCount p0_roundCount p0_setCount) sz) := by
  refine x_met (cc := cX10_count) (maxL := 2) (ret := (some .int)) (own := RX10) (Qc := fun A => (q_X10_count dC dI cI cJ cZ h_p0 ad_p0 p0_places p0_steps p0_pastFirst p0_past p0_goings p0_rowSize p0_ways p0_hasField p0_fieldSize p0_faultNow p0_hasTree p0_treeSize p0_weightCount p0_roundCount p0_setCount post A)) (by decide) rfl rfl (Nat.le_of_ble_eq_true rfl) ?_
  intro p e s m args below meth c A ls E0 hP hD hS hl
  obtain ⟨hx, hb, hr, hml, hown, hts, hlocks, hK, hA, n1, n2⟩ := id E0
  have iX10 : ∀ w ∈ u_ws RX10 TX10 50, w ∈ wsX10_count := fun w h => List.mem_cons_of_mem _ (List.mem_append_right _ h)
  have hS0 := hS
  have hl : lv_has ls 2 [(0, .ref h_p0), (1, .int a1)] := hl
  unfold w_X10_count at hw
  obtain ⟨H, hH⟩ : ∃ H, H = s.heap := ⟨_, rfl⟩
  have hS : va_S A s.heap H [] := by rw [hH]; exact hS
  have hP : va_P (dC, dI) vwCl (wld_X10_count cI cJ cZ h_p0 ad_p0 p0_places p0_steps p0_pastFirst p0_past p0_goings p0_rowSize p0_ways p0_hasField p0_fieldSize p0_faultNow p0_hasTree p0_treeSize p0_weightCount p0_roundCount p0_setCount) H := by rw [hH]; exact hP
  suffices hG : W p l e ({ frames := 0, cells := 0, slots := 0, locals := 0 }) s m args below meth c H [] 0 0 (MQ below (q_X10_count dC dI cI cJ cZ h_p0 ad_p0 p0_places p0_steps p0_pastFirst p0_past p0_goings p0_rowSize p0_ways p0_hasField p0_fieldSize p0_faultNow p0_hasTree p0_treeSize p0_weightCount p0_roundCount p0_setCount post A) args s 0 0 A) (F0 m 0 ls []) by rw [hH] at hG; exact hG
  clear hH
  refine lv_iload_n hx hb dX10_count_0 rfl (lv_at hl 1 rfl) ?_
  by_cases hsw : a1.toInt < 0 ∨ 10 < a1.toInt
  · have hw := hw.1 hsw
    refine lv_tableOut (tgt := 115) hx hb dX10_count_1 hsw (by decide) ?_
    refine lv_ldc (v := -2000000001) hx hb hown (hts (.constant RX10 159 (-2000000001)) (by decide +kernel)) dX10_count_115 ?_
    exact x_iret (w1 := fun (u : Unit) => (wld_X10_count cI cJ cZ h_p0 ad_p0 p0_places p0_steps p0_pastFirst p0_past p0_goings p0_rowSize p0_ways p0_hasField p0_fieldSize p0_faultNow p0_hasTree p0_treeSize p0_weightCount p0_roundCount p0_setCount)) hx hb hr hlocks () hw hP hD hS dX10_count_117
  · have hw := hw.2
    have hsw1 : ¬ a1.toInt < 0 := fun h => hsw (Or.inl h)
    have hsw2 : ¬ 10 < a1.toInt := fun h => hsw (Or.inr h)
    by_cases hc0 : a1 = (0 : Int32)
    · have hw := hw.1 hc0
      refine lv_tableIn (tgt := 60) hx hb dX10_count_1 hsw1 hsw2 (by rw [hc0]; rfl) (by decide) ?_
      refine lv_aload_n hx hb dX10_count_60 rfl (lv_at hl 0 rfl) ?_
      refine va_get (D := (dC, dI)) (ci := 10) (v := .int p0_places) (C := RX10) (T := TX10) (N := 50) hx hb hts iX10 hown hK hP 0 rfl rfl 0 (by decide) (hts (.fieldLink RX10 127 "NetHouseModel" "places" "I") (by decide +kernel)) (fun _ h9 => h9) rfl dX10_count_61 ?_
      exact x_iret (w1 := fun (u : Unit) => (wld_X10_count cI cJ cZ h_p0 ad_p0 p0_places p0_steps p0_pastFirst p0_past p0_goings p0_rowSize p0_ways p0_hasField p0_fieldSize p0_faultNow p0_hasTree p0_treeSize p0_weightCount p0_roundCount p0_setCount)) hx hb hr hlocks () hw hP hD hS dX10_count_64
    have hw := hw.2
    by_cases hc1 : a1 = (1 : Int32)
    · have hw := hw.1 hc1
      refine lv_tableIn (tgt := 65) hx hb dX10_count_1 hsw1 hsw2 (by rw [hc1]; rfl) (by decide) ?_
      refine lv_aload_n hx hb dX10_count_65 rfl (lv_at hl 0 rfl) ?_
      refine va_get (D := (dC, dI)) (ci := 10) (v := .int p0_steps) (C := RX10) (T := TX10) (N := 50) hx hb hts iX10 hown hK hP 0 rfl rfl 1 (by decide) (hts (.fieldLink RX10 130 "NetHouseModel" "steps" "I") (by decide +kernel)) (fun _ h9 => h9) rfl dX10_count_66 ?_
      exact x_iret (w1 := fun (u : Unit) => (wld_X10_count cI cJ cZ h_p0 ad_p0 p0_places p0_steps p0_pastFirst p0_past p0_goings p0_rowSize p0_ways p0_hasField p0_fieldSize p0_faultNow p0_hasTree p0_treeSize p0_weightCount p0_roundCount p0_setCount)) hx hb hr hlocks () hw hP hD hS dX10_count_69
    have hw := hw.2
    by_cases hc2 : a1 = (2 : Int32)
    · have hw := hw.1 hc2
      refine lv_tableIn (tgt := 70) hx hb dX10_count_1 hsw1 hsw2 (by rw [hc2]; rfl) (by decide) ?_
      refine lv_aload_n hx hb dX10_count_70 rfl (lv_at hl 0 rfl) ?_
      refine va_get (D := (dC, dI)) (ci := 10) (v := .int p0_past) (C := RX10) (T := TX10) (N := 50) hx hb hts iX10 hown hK hP 0 rfl rfl 16 (by decide) (hts (.fieldLink RX10 152 "NetHouseModel" "past" "I") (by decide +kernel)) (fun _ h9 => h9) rfl dX10_count_71 ?_
      exact x_iret (w1 := fun (u : Unit) => (wld_X10_count cI cJ cZ h_p0 ad_p0 p0_places p0_steps p0_pastFirst p0_past p0_goings p0_rowSize p0_ways p0_hasField p0_fieldSize p0_faultNow p0_hasTree p0_treeSize p0_weightCount p0_roundCount p0_setCount)) hx hb hr hlocks () hw hP hD hS dX10_count_74
    have hw := hw.2
    by_cases hc3 : a1 = (3 : Int32)
    · have hw := hw.1 hc3
      refine lv_tableIn (tgt := 75) hx hb dX10_count_1 hsw1 hsw2 (by rw [hc3]; rfl) (by decide) ?_
      refine lv_aload_n hx hb dX10_count_75 rfl (lv_at hl 0 rfl) ?_
      refine va_get (D := (dC, dI)) (ci := 10) (v := .int p0_goings) (C := RX10) (T := TX10) (N := 50) hx hb hts iX10 hown hK hP 0 rfl rfl 17 (by decide) (hts (.fieldLink RX10 208 "NetHouseModel" "goings" "I") (by decide +kernel)) (fun _ h9 => h9) rfl dX10_count_76 ?_
      exact x_iret (w1 := fun (u : Unit) => (wld_X10_count cI cJ cZ h_p0 ad_p0 p0_places p0_steps p0_pastFirst p0_past p0_goings p0_rowSize p0_ways p0_hasField p0_fieldSize p0_faultNow p0_hasTree p0_treeSize p0_weightCount p0_roundCount p0_setCount)) hx hb hr hlocks () hw hP hD hS dX10_count_79
    have hw := hw.2
    by_cases hc4 : a1 = (4 : Int32)
    · have hw := hw.1 hc4
      refine lv_tableIn (tgt := 80) hx hb dX10_count_1 hsw1 hsw2 (by rw [hc4]; rfl) (by decide) ?_
      refine lv_aload_n hx hb dX10_count_80 rfl (lv_at hl 0 rfl) ?_
      refine va_get (D := (dC, dI)) (ci := 10) (v := .int p0_rowSize) (C := RX10) (T := TX10) (N := 50) hx hb hts iX10 hown hK hP 0 rfl rfl 18 (by decide) (hts (.fieldLink RX10 221 "NetHouseModel" "rowSize" "I") (by decide +kernel)) (fun _ h9 => h9) rfl dX10_count_81 ?_
      exact x_iret (w1 := fun (u : Unit) => (wld_X10_count cI cJ cZ h_p0 ad_p0 p0_places p0_steps p0_pastFirst p0_past p0_goings p0_rowSize p0_ways p0_hasField p0_fieldSize p0_faultNow p0_hasTree p0_treeSize p0_weightCount p0_roundCount p0_setCount)) hx hb hr hlocks () hw hP hD hS dX10_count_84
    have hw := hw.2
    by_cases hc5 : a1 = (5 : Int32)
    · have hw := hw.1 hc5
      refine lv_tableIn (tgt := 85) hx hb dX10_count_1 hsw1 hsw2 (by rw [hc5]; rfl) (by decide) ?_
      refine lv_aload_n hx hb dX10_count_85 rfl (lv_at hl 0 rfl) ?_
      refine va_get (D := (dC, dI)) (ci := 10) (v := .int p0_ways) (C := RX10) (T := TX10) (N := 50) hx hb hts iX10 hown hK hP 0 rfl rfl 21 (by decide) (hts (.fieldLink RX10 225 "NetHouseModel" "ways" "I") (by decide +kernel)) (fun _ h9 => h9) rfl dX10_count_86 ?_
      exact x_iret (w1 := fun (u : Unit) => (wld_X10_count cI cJ cZ h_p0 ad_p0 p0_places p0_steps p0_pastFirst p0_past p0_goings p0_rowSize p0_ways p0_hasField p0_fieldSize p0_faultNow p0_hasTree p0_treeSize p0_weightCount p0_roundCount p0_setCount)) hx hb hr hlocks () hw hP hD hS dX10_count_89
    have hw := hw.2
    by_cases hc6 : a1 = (6 : Int32)
    · have hw := hw.1 hc6
      refine lv_tableIn (tgt := 90) hx hb dX10_count_1 hsw1 hsw2 (by rw [hc6]; rfl) (by decide) ?_
      refine lv_aload_n hx hb dX10_count_90 rfl (lv_at hl 0 rfl) ?_
      refine va_get (D := (dC, dI)) (ci := 10) (v := .int p0_fieldSize) (C := RX10) (T := TX10) (N := 50) hx hb hts iX10 hown hK hP 0 rfl rfl 25 (by decide) (hts (.fieldLink RX10 124 "NetHouseModel" "fieldSize" "I") (by decide +kernel)) (fun _ h9 => h9) rfl dX10_count_91 ?_
      exact x_iret (w1 := fun (u : Unit) => (wld_X10_count cI cJ cZ h_p0 ad_p0 p0_places p0_steps p0_pastFirst p0_past p0_goings p0_rowSize p0_ways p0_hasField p0_fieldSize p0_faultNow p0_hasTree p0_treeSize p0_weightCount p0_roundCount p0_setCount)) hx hb hr hlocks () hw hP hD hS dX10_count_94
    have hw := hw.2
    by_cases hc7 : a1 = (7 : Int32)
    · have hw := hw.1 hc7
      refine lv_tableIn (tgt := 95) hx hb dX10_count_1 hsw1 hsw2 (by rw [hc7]; rfl) (by decide) ?_
      refine lv_aload_n hx hb dX10_count_95 rfl (lv_at hl 0 rfl) ?_
      refine va_get (D := (dC, dI)) (ci := 10) (v := .int p0_treeSize) (C := RX10) (T := TX10) (N := 50) hx hb hts iX10 hown hK hP 0 rfl rfl 35 (by decide) (hts (.fieldLink RX10 140 "NetHouseModel" "treeSize" "I") (by decide +kernel)) (fun _ h9 => h9) rfl dX10_count_96 ?_
      exact x_iret (w1 := fun (u : Unit) => (wld_X10_count cI cJ cZ h_p0 ad_p0 p0_places p0_steps p0_pastFirst p0_past p0_goings p0_rowSize p0_ways p0_hasField p0_fieldSize p0_faultNow p0_hasTree p0_treeSize p0_weightCount p0_roundCount p0_setCount)) hx hb hr hlocks () hw hP hD hS dX10_count_99
    have hw := hw.2
    by_cases hc8 : a1 = (8 : Int32)
    · have hw := hw.1 hc8
      refine lv_tableIn (tgt := 100) hx hb dX10_count_1 hsw1 hsw2 (by rw [hc8]; rfl) (by decide) ?_
      refine lv_aload_n hx hb dX10_count_100 rfl (lv_at hl 0 rfl) ?_
      refine va_get (D := (dC, dI)) (ci := 10) (v := .int p0_weightCount) (C := RX10) (T := TX10) (N := 50) hx hb hts iX10 hown hK hP 0 rfl rfl 43 (by decide) (hts (.fieldLink RX10 143 "NetHouseModel" "weightCount" "I") (by decide +kernel)) (fun _ h9 => h9) rfl dX10_count_101 ?_
      exact x_iret (w1 := fun (u : Unit) => (wld_X10_count cI cJ cZ h_p0 ad_p0 p0_places p0_steps p0_pastFirst p0_past p0_goings p0_rowSize p0_ways p0_hasField p0_fieldSize p0_faultNow p0_hasTree p0_treeSize p0_weightCount p0_roundCount p0_setCount)) hx hb hr hlocks () hw hP hD hS dX10_count_104
    have hw := hw.2
    by_cases hc9 : a1 = (9 : Int32)
    · have hw := hw.1 hc9
      refine lv_tableIn (tgt := 105) hx hb dX10_count_1 hsw1 hsw2 (by rw [hc9]; rfl) (by decide) ?_
      refine lv_aload_n hx hb dX10_count_105 rfl (lv_at hl 0 rfl) ?_
      refine va_get (D := (dC, dI)) (ci := 10) (v := .int p0_roundCount) (C := RX10) (T := TX10) (N := 50) hx hb hts iX10 hown hK hP 0 rfl rfl 45 (by decide) (hts (.fieldLink RX10 146 "NetHouseModel" "roundCount" "I") (by decide +kernel)) (fun _ h9 => h9) rfl dX10_count_106 ?_
      exact x_iret (w1 := fun (u : Unit) => (wld_X10_count cI cJ cZ h_p0 ad_p0 p0_places p0_steps p0_pastFirst p0_past p0_goings p0_rowSize p0_ways p0_hasField p0_fieldSize p0_faultNow p0_hasTree p0_treeSize p0_weightCount p0_roundCount p0_setCount)) hx hb hr hlocks () hw hP hD hS dX10_count_109
    have hw := hw.2
    have hc10 : a1 = (10 : Int32) := xSw10 hsw1 hsw2 hc0 hc1 hc2 hc3 hc4 hc5 hc6 hc7 hc8 hc9
    have hw := hw hc10
    refine lv_tableIn (tgt := 110) hx hb dX10_count_1 hsw1 hsw2 (by rw [hc10]; rfl) (by decide) ?_
    refine lv_aload_n hx hb dX10_count_110 rfl (lv_at hl 0 rfl) ?_
    refine va_get (D := (dC, dI)) (ci := 10) (v := .int p0_setCount) (C := RX10) (T := TX10) (N := 50) hx hb hts iX10 hown hK hP 0 rfl rfl 47 (by decide) (hts (.fieldLink RX10 149 "NetHouseModel" "setCount" "I") (by decide +kernel)) (fun _ h9 => h9) rfl dX10_count_111 ?_
    exact x_iret (w1 := fun (u : Unit) => (wld_X10_count cI cJ cZ h_p0 ad_p0 p0_places p0_steps p0_pastFirst p0_past p0_goings p0_rowSize p0_ways p0_hasField p0_fieldSize p0_faultNow p0_hasTree p0_treeSize p0_weightCount p0_roundCount p0_setCount)) hx hb hr hlocks () hw hP hD hS dX10_count_114
